theorem tm_1160 : (Jvm.Cond.methodLink "MemoryCourtLaw" (239 : Nat) ({ cls := "MemoryCourtLaw", name := "setOrder", desc := "(LMemoryCourt;I[J)I" } : Jvm.MethodName)) ∈ lw_tbl := List.mem_of_getElem? (i := 1160) (by decide +kernel)
theorem tm_1161 : (Jvm.Cond.static ({ cls := "MemoryCourtLaw", name := "setOrder", desc := "(LMemoryCourt;I[J)I" } : Jvm.MethodName)) ∈ lw_tbl := List.mem_of_getElem? (i := 1161) (by decide +kernel)
theorem tm_1162 : (Jvm.Cond.codeWith ({ cls := "MemoryCourtLaw", name := "setOrder", desc := "(LMemoryCourt;I[J)I" } : Jvm.MethodName) method_20_code (4 : Nat) (Option.some Jvm.ClassFile.FieldType.int) [((0 : Nat), (9 : Nat), (12 : Nat), (39 : Nat))]) ∈ lw_tbl := List.mem_of_getElem? (i := 1162) (by decide +kernel)
theorem tm_1668 : (Jvm.Cond.methodLink "MemoryCourtLaw" (241 : Nat) ({ cls := "MemoryCourtModel", name := "setOrder", desc := "(I)I" } : Jvm.MethodName)) ∈ lw_tbl := List.mem_of_getElem? (i := 1668) (by decide +kernel)
theorem tm_1669 : (Jvm.Cond.instanceMethod ({ cls := "MemoryCourtModel", name := "setOrder", desc := "(I)I" } : Jvm.MethodName)) ∈ lw_tbl := List.mem_of_getElem? (i := 1669) (by decide +kernel)
theorem tm_1670 : (Jvm.Cond.selects "MemoryCourtModel" ({ cls := "MemoryCourtModel", name := "setOrder", desc := "(I)I" } : Jvm.MethodName) ({ cls := "MemoryCourtModel", name := "setOrder", desc := "(I)I" } : Jvm.MethodName)) ∈ lw_tbl := List.mem_of_getElem? (i := 1670) (by decide +kernel)
theorem tm_1671 : (Jvm.Cond.code ({ cls := "MemoryCourtModel", name := "setOrder", desc := "(I)I" } : Jvm.MethodName) prog_11_method_66_code (3 : Nat) (Option.some Jvm.ClassFile.FieldType.int)) ∈ lw_tbl := List.mem_of_getElem? (i := 1671) (by decide +kernel)
theorem tm_1168 : (Jvm.Cond.methodLink "MemoryCourtLaw" (242 : Nat) ({ cls := "MemoryCourtLaw", name := "undo", desc := "(LMemoryCourt;[J)I" } : Jvm.MethodName)) ∈ lw_tbl := List.mem_of_getElem? (i := 1168) (by decide +kernel)
theorem tm_1169 : (Jvm.Cond.static ({ cls := "MemoryCourtLaw", name := "undo", desc := "(LMemoryCourt;[J)I" } : Jvm.MethodName)) ∈ lw_tbl := List.mem_of_getElem? (i := 1169) (by decide +kernel)
theorem tm_1170 : (Jvm.Cond.codeWith ({ cls := "MemoryCourtLaw", name := "undo", desc := "(LMemoryCourt;[J)I" } : Jvm.MethodName) method_21_code (3 : Nat) (Option.some Jvm.ClassFile.FieldType.int) [((0 : Nat), (8 : Nat), (11 : Nat), (51 : Nat))]) ∈ lw_tbl := List.mem_of_getElem? (i := 1170) (by decide +kernel)
theorem tm_1446 : (Jvm.Cond.methodLink "MemoryCourtLaw" (245 : Nat) ({ cls := "MemoryCourtModel", name := "undo", desc := "()I" } : Jvm.MethodName)) ∈ lw_tbl := List.mem_of_getElem? (i := 1446) (by decide +kernel)
theorem tm_1447 : (Jvm.Cond.instanceMethod ({ cls := "MemoryCourtModel", name := "undo", desc := "()I" } : Jvm.MethodName)) ∈ lw_tbl := List.mem_of_getElem? (i := 1447) (by decide +kernel)
theorem tm_1448 : (Jvm.Cond.selects "MemoryCourtModel" ({ cls := "MemoryCourtModel", name := "undo", desc := "()I" } : Jvm.MethodName) ({ cls := "MemoryCourtModel", name := "undo", desc := "()I" } : Jvm.MethodName)) ∈ lw_tbl := List.mem_of_getElem? (i := 1448) (by decide +kernel)
theorem tm_1449 : (Jvm.Cond.code ({ cls := "MemoryCourtModel", name := "undo", desc := "()I" } : Jvm.MethodName) prog_11_method_12_code (2 : Nat) (Option.some Jvm.ClassFile.FieldType.int)) ∈ lw_tbl := List.mem_of_getElem? (i := 1449) (by decide +kernel)
theorem tm_1180 : (Jvm.Cond.methodLink "MemoryCourtLaw" (246 : Nat) ({ cls := "MemoryCourtLaw", name := "metIn", desc := "(LMemoryCourt;II[J)I" } : Jvm.MethodName)) ∈ lw_tbl := List.mem_of_getElem? (i := 1180) (by decide +kernel)
theorem tm_1181 : (Jvm.Cond.static ({ cls := "MemoryCourtLaw", name := "metIn", desc := "(LMemoryCourt;II[J)I" } : Jvm.MethodName)) ∈ lw_tbl := List.mem_of_getElem? (i := 1181) (by decide +kernel)
theorem tm_1182 : (Jvm.Cond.codeWith ({ cls := "MemoryCourtLaw", name := "metIn", desc := "(LMemoryCourt;II[J)I" } : Jvm.MethodName) method_22_code (5 : Nat) (Option.some Jvm.ClassFile.FieldType.int) [((0 : Nat), (10 : Nat), (13 : Nat), (13 : Nat)), ((0 : Nat), (10 : Nat), (17 : Nat), (39 : Nat))]) ∈ lw_tbl := List.mem_of_getElem? (i := 1182) (by decide +kernel)
theorem tm_1779 : (Jvm.Cond.methodLink "MemoryCourtLaw" (248 : Nat) ({ cls := "MemoryCourtModel", name := "metIn", desc := "(II)I" } : Jvm.MethodName)) ∈ lw_tbl := List.mem_of_getElem? (i := 1779) (by decide +kernel)
theorem tm_1780 : (Jvm.Cond.instanceMethod ({ cls := "MemoryCourtModel", name := "metIn", desc := "(II)I" } : Jvm.MethodName)) ∈ lw_tbl := List.mem_of_getElem? (i := 1780) (by decide +kernel)
theorem tm_1781 : (Jvm.Cond.selects "MemoryCourtModel" ({ cls := "MemoryCourtModel", name := "metIn", desc := "(II)I" } : Jvm.MethodName) ({ cls := "MemoryCourtModel", name := "metIn", desc := "(II)I" } : Jvm.MethodName)) ∈ lw_tbl := List.mem_of_getElem? (i := 1781) (by decide +kernel)
theorem tm_1782 : (Jvm.Cond.code ({ cls := "MemoryCourtModel", name := "metIn", desc := "(II)I" } : Jvm.MethodName) prog_11_method_91_code (3 : Nat) (Option.some Jvm.ClassFile.FieldType.int)) ∈ lw_tbl := List.mem_of_getElem? (i := 1782) (by decide +kernel)
theorem tm_1192 : (Jvm.Cond.methodLink "MemoryCourtLaw" (249 : Nat) ({ cls := "MemoryCourtLaw", name := "refusedIn", desc := "(LMemoryCourt;II[J)I" } : Jvm.MethodName)) ∈ lw_tbl := List.mem_of_getElem? (i := 1192) (by decide +kernel)
theorem tm_1193 : (Jvm.Cond.static ({ cls := "MemoryCourtLaw", name := "refusedIn", desc := "(LMemoryCourt;II[J)I" } : Jvm.MethodName)) ∈ lw_tbl := List.mem_of_getElem? (i := 1193) (by decide +kernel)
theorem tm_1194 : (Jvm.Cond.codeWith ({ cls := "MemoryCourtLaw", name := "refusedIn", desc := "(LMemoryCourt;II[J)I" } : Jvm.MethodName) method_23_code (5 : Nat) (Option.some Jvm.ClassFile.FieldType.int) [((0 : Nat), (10 : Nat), (13 : Nat), (13 : Nat)), ((0 : Nat), (10 : Nat), (17 : Nat), (39 : Nat))]) ∈ lw_tbl := List.mem_of_getElem? (i := 1194) (by decide +kernel)
theorem tm_1795 : (Jvm.Cond.methodLink "MemoryCourtLaw" (251 : Nat) ({ cls := "MemoryCourtModel", name := "refusedIn", desc := "(II)I" } : Jvm.MethodName)) ∈ lw_tbl := List.mem_of_getElem? (i := 1795) (by decide +kernel)
theorem tm_1796 : (Jvm.Cond.instanceMethod ({ cls := "MemoryCourtModel", name := "refusedIn", desc := "(II)I" } : Jvm.MethodName)) ∈ lw_tbl := List.mem_of_getElem? (i := 1796) (by decide +kernel)
theorem tm_1797 : (Jvm.Cond.selects "MemoryCourtModel" ({ cls := "MemoryCourtModel", name := "refusedIn", desc := "(II)I" } : Jvm.MethodName) ({ cls := "MemoryCourtModel", name := "refusedIn", desc := "(II)I" } : Jvm.MethodName)) ∈ lw_tbl := List.mem_of_getElem? (i := 1797) (by decide +kernel)
theorem tm_1798 : (Jvm.Cond.code ({ cls := "MemoryCourtModel", name := "refusedIn", desc := "(II)I" } : Jvm.MethodName) prog_11_method_93_code (3 : Nat) (Option.some Jvm.ClassFile.FieldType.int)) ∈ lw_tbl := List.mem_of_getElem? (i := 1798) (by decide +kernel)
theorem tm_1199 : (Jvm.Cond.methodLink "MemoryCourtLaw" (252 : Nat) ({ cls := "MemoryCourtLaw", name := "wouldFine", desc := "(LMemoryCourt;I[J)I" } : Jvm.MethodName)) ∈ lw_tbl := List.mem_of_getElem? (i := 1199) (by decide +kernel)
theorem tm_1200 : (Jvm.Cond.static ({ cls := "MemoryCourtLaw", name := "wouldFine", desc := "(LMemoryCourt;I[J)I" } : Jvm.MethodName)) ∈ lw_tbl := List.mem_of_getElem? (i := 1200) (by decide +kernel)
theorem tm_1201 : (Jvm.Cond.codeWith ({ cls := "MemoryCourtLaw", name := "wouldFine", desc := "(LMemoryCourt;I[J)I" } : Jvm.MethodName) method_24_code (4 : Nat) (Option.some Jvm.ClassFile.FieldType.int) [((0 : Nat), (9 : Nat), (12 : Nat), (13 : Nat))]) ∈ lw_tbl := List.mem_of_getElem? (i := 1201) (by decide +kernel)
theorem tm_1807 : (Jvm.Cond.methodLink "MemoryCourtLaw" (254 : Nat) ({ cls := "MemoryCourtModel", name := "wouldFine", desc := "(I)I" } : Jvm.MethodName)) ∈ lw_tbl := List.mem_of_getElem? (i := 1807) (by decide +kernel)
theorem tm_1808 : (Jvm.Cond.instanceMethod ({ cls := "MemoryCourtModel", name := "wouldFine", desc := "(I)I" } : Jvm.MethodName)) ∈ lw_tbl := List.mem_of_getElem? (i := 1808) (by decide +kernel)
theorem tm_1809 : (Jvm.Cond.selects "MemoryCourtModel" ({ cls := "MemoryCourtModel", name := "wouldFine", desc := "(I)I" } : Jvm.MethodName) ({ cls := "MemoryCourtModel", name := "wouldFine", desc := "(I)I" } : Jvm.MethodName)) ∈ lw_tbl := List.mem_of_getElem? (i := 1809) (by decide +kernel)
theorem tm_1810 : (Jvm.Cond.code ({ cls := "MemoryCourtModel", name := "wouldFine", desc := "(I)I" } : Jvm.MethodName) prog_11_method_96_code (4 : Nat) (Option.some Jvm.ClassFile.FieldType.int)) ∈ lw_tbl := List.mem_of_getElem? (i := 1810) (by decide +kernel)
theorem tm_1211 : (Jvm.Cond.methodLink "MemoryCourtLaw" (255 : Nat) ({ cls := "MemoryCourtLaw", name := "wouldPay", desc := "(LMemoryCourt;I[J)I" } : Jvm.MethodName)) ∈ lw_tbl := List.mem_of_getElem? (i := 1211) (by decide +kernel)
theorem tm_1212 : (Jvm.Cond.static ({ cls := "MemoryCourtLaw", name := "wouldPay", desc := "(LMemoryCourt;I[J)I" } : Jvm.MethodName)) ∈ lw_tbl := List.mem_of_getElem? (i := 1212) (by decide +kernel)
theorem tm_1213 : (Jvm.Cond.codeWith ({ cls := "MemoryCourtLaw", name := "wouldPay", desc := "(LMemoryCourt;I[J)I" } : Jvm.MethodName) method_25_code (4 : Nat) (Option.some Jvm.ClassFile.FieldType.int) [((0 : Nat), (9 : Nat), (12 : Nat), (13 : Nat))]) ∈ lw_tbl := List.mem_of_getElem? (i := 1213) (by decide +kernel)
theorem tm_1799 : (Jvm.Cond.methodLink "MemoryCourtLaw" (257 : Nat) ({ cls := "MemoryCourtModel", name := "wouldPay", desc := "(I)I" } : Jvm.MethodName)) ∈ lw_tbl := List.mem_of_getElem? (i := 1799) (by decide +kernel)
theorem tm_1800 : (Jvm.Cond.instanceMethod ({ cls := "MemoryCourtModel", name := "wouldPay", desc := "(I)I" } : Jvm.MethodName)) ∈ lw_tbl := List.mem_of_getElem? (i := 1800) (by decide +kernel)
theorem tm_1801 : (Jvm.Cond.selects "MemoryCourtModel" ({ cls := "MemoryCourtModel", name := "wouldPay", desc := "(I)I" } : Jvm.MethodName) ({ cls := "MemoryCourtModel", name := "wouldPay", desc := "(I)I" } : Jvm.MethodName)) ∈ lw_tbl := List.mem_of_getElem? (i := 1801) (by decide +kernel)
theorem tm_1802 : (Jvm.Cond.code ({ cls := "MemoryCourtModel", name := "wouldPay", desc := "(I)I" } : Jvm.MethodName) prog_11_method_94_code (4 : Nat) (Option.some Jvm.ClassFile.FieldType.int)) ∈ lw_tbl := List.mem_of_getElem? (i := 1802) (by decide +kernel)
theorem tm_1222 : (Jvm.Cond.methodLink "MemoryCourtLaw" (258 : Nat) ({ cls := "MemoryCourtLaw", name := "freeIn", desc := "(LMemoryCourt;I[J)I" } : Jvm.MethodName)) ∈ lw_tbl := List.mem_of_getElem? (i := 1222) (by decide +kernel)
theorem tm_1223 : (Jvm.Cond.static ({ cls := "MemoryCourtLaw", name := "freeIn", desc := "(LMemoryCourt;I[J)I" } : Jvm.MethodName)) ∈ lw_tbl := List.mem_of_getElem? (i := 1223) (by decide +kernel)
theorem tm_1224 : (Jvm.Cond.codeWith ({ cls := "MemoryCourtLaw", name := "freeIn", desc := "(LMemoryCourt;I[J)I" } : Jvm.MethodName) method_26_code (4 : Nat) (Option.some Jvm.ClassFile.FieldType.int) [((0 : Nat), (9 : Nat), (12 : Nat), (39 : Nat))]) ∈ lw_tbl := List.mem_of_getElem? (i := 1224) (by decide +kernel)
theorem tm_1803 : (Jvm.Cond.methodLink "MemoryCourtLaw" (260 : Nat) ({ cls := "MemoryCourtModel", name := "freeIn", desc := "(I)I" } : Jvm.MethodName)) ∈ lw_tbl := List.mem_of_getElem? (i := 1803) (by decide +kernel)
theorem tm_1804 : (Jvm.Cond.instanceMethod ({ cls := "MemoryCourtModel", name := "freeIn", desc := "(I)I" } : Jvm.MethodName)) ∈ lw_tbl := List.mem_of_getElem? (i := 1804) (by decide +kernel)
theorem tm_1805 : (Jvm.Cond.selects "MemoryCourtModel" ({ cls := "MemoryCourtModel", name := "freeIn", desc := "(I)I" } : Jvm.MethodName) ({ cls := "MemoryCourtModel", name := "freeIn", desc := "(I)I" } : Jvm.MethodName)) ∈ lw_tbl := List.mem_of_getElem? (i := 1805) (by decide +kernel)
theorem tm_1806 : (Jvm.Cond.code ({ cls := "MemoryCourtModel", name := "freeIn", desc := "(I)I" } : Jvm.MethodName) prog_11_method_95_code (3 : Nat) (Option.some Jvm.ClassFile.FieldType.int)) ∈ lw_tbl := List.mem_of_getElem? (i := 1806) (by decide +kernel)
theorem tm_1233 : (Jvm.Cond.methodLink "MemoryCourtLaw" (261 : Nat) ({ cls := "MemoryCourtLaw", name := "processIn", desc := "(LMemoryCourt;III[J)I" } : Jvm.MethodName)) ∈ lw_tbl := List.mem_of_getElem? (i := 1233) (by decide +kernel)
theorem tm_1234 : (Jvm.Cond.static ({ cls := "MemoryCourtLaw", name := "processIn", desc := "(LMemoryCourt;III[J)I" } : Jvm.MethodName)) ∈ lw_tbl := List.mem_of_getElem? (i := 1234) (by decide +kernel)
theorem tm_1235 : (Jvm.Cond.codeWith ({ cls := "MemoryCourtLaw", name := "processIn", desc := "(LMemoryCourt;III[J)I" } : Jvm.MethodName) method_27_code (6 : Nat) (Option.some Jvm.ClassFile.FieldType.int) [((0 : Nat), (12 : Nat), (15 : Nat), (13 : Nat)), ((0 : Nat), (12 : Nat), (19 : Nat), (39 : Nat))]) ∈ lw_tbl := List.mem_of_getElem? (i := 1235) (by decide +kernel)
theorem tm_1811 : (Jvm.Cond.methodLink "MemoryCourtLaw" (263 : Nat) ({ cls := "MemoryCourtModel", name := "processIn", desc := "(III)I" } : Jvm.MethodName)) ∈ lw_tbl := List.mem_of_getElem? (i := 1811) (by decide +kernel)
theorem tm_1812 : (Jvm.Cond.instanceMethod ({ cls := "MemoryCourtModel", name := "processIn", desc := "(III)I" } : Jvm.MethodName)) ∈ lw_tbl := List.mem_of_getElem? (i := 1812) (by decide +kernel)
theorem tm_1813 : (Jvm.Cond.selects "MemoryCourtModel" ({ cls := "MemoryCourtModel", name := "processIn", desc := "(III)I" } : Jvm.MethodName) ({ cls := "MemoryCourtModel", name := "processIn", desc := "(III)I" } : Jvm.MethodName)) ∈ lw_tbl := List.mem_of_getElem? (i := 1813) (by decide +kernel)
theorem tm_1814 : (Jvm.Cond.code ({ cls := "MemoryCourtModel", name := "processIn", desc := "(III)I" } : Jvm.MethodName) prog_11_method_97_code (6 : Nat) (Option.some Jvm.ClassFile.FieldType.int)) ∈ lw_tbl := List.mem_of_getElem? (i := 1814) (by decide +kernel)
theorem tm_1241 : (Jvm.Cond.methodLink "MemoryCourtLaw" (264 : Nat) ({ cls := "MemoryCourtLaw", name := "bestOrder", desc := "(LMemoryCourt;I[J)I" } : Jvm.MethodName)) ∈ lw_tbl := List.mem_of_getElem? (i := 1241) (by decide +kernel)
theorem tm_1242 : (Jvm.Cond.static ({ cls := "MemoryCourtLaw", name := "bestOrder", desc := "(LMemoryCourt;I[J)I" } : Jvm.MethodName)) ∈ lw_tbl := List.mem_of_getElem? (i := 1242) (by decide +kernel)
theorem tm_1243 : (Jvm.Cond.codeWith ({ cls := "MemoryCourtLaw", name := "bestOrder", desc := "(LMemoryCourt;I[J)I" } : Jvm.MethodName) method_28_code (4 : Nat) (Option.some Jvm.ClassFile.FieldType.int) [((0 : Nat), (9 : Nat), (12 : Nat), (39 : Nat))]) ∈ lw_tbl := List.mem_of_getElem? (i := 1243) (by decide +kernel)
theorem tm_1815 : (Jvm.Cond.methodLink "MemoryCourtLaw" (266 : Nat) ({ cls := "MemoryCourtModel", name := "bestOrder", desc := "(I)I" } : Jvm.MethodName)) ∈ lw_tbl := List.mem_of_getElem? (i := 1815) (by decide +kernel)
theorem tm_1816 : (Jvm.Cond.instanceMethod ({ cls := "MemoryCourtModel", name := "bestOrder", desc := "(I)I" } : Jvm.MethodName)) ∈ lw_tbl := List.mem_of_getElem? (i := 1816) (by decide +kernel)
theorem tm_1817 : (Jvm.Cond.selects "MemoryCourtModel" ({ cls := "MemoryCourtModel", name := "bestOrder", desc := "(I)I" } : Jvm.MethodName) ({ cls := "MemoryCourtModel", name := "bestOrder", desc := "(I)I" } : Jvm.MethodName)) ∈ lw_tbl := List.mem_of_getElem? (i := 1817) (by decide +kernel)
theorem tm_1818 : (Jvm.Cond.code ({ cls := "MemoryCourtModel", name := "bestOrder", desc := "(I)I" } : Jvm.MethodName) prog_11_method_98_code (6 : Nat) (Option.some Jvm.ClassFile.FieldType.int)) ∈ lw_tbl := List.mem_of_getElem? (i := 1818) (by decide +kernel)
theorem tm_1248 : (Jvm.Cond.methodLink "MemoryCourtLaw" (267 : Nat) ({ cls := "MemoryCourtLaw", name := "helps", desc := "(LMemoryCourt;II[J)I" } : Jvm.MethodName)) ∈ lw_tbl := List.mem_of_getElem? (i := 1248) (by decide +kernel)
theorem tm_1249 : (Jvm.Cond.static ({ cls := "MemoryCourtLaw", name := "helps", desc := "(LMemoryCourt;II[J)I" } : Jvm.MethodName)) ∈ lw_tbl := List.mem_of_getElem? (i := 1249) (by decide +kernel)
theorem tm_1250 : (Jvm.Cond.codeWith ({ cls := "MemoryCourtLaw", name := "helps", desc := "(LMemoryCourt;II[J)I" } : Jvm.MethodName) method_29_code (5 : Nat) (Option.some Jvm.ClassFile.FieldType.int) [((0 : Nat), (10 : Nat), (13 : Nat), (13 : Nat))]) ∈ lw_tbl := List.mem_of_getElem? (i := 1250) (by decide +kernel)
theorem tm_1819 : (Jvm.Cond.methodLink "MemoryCourtLaw" (269 : Nat) ({ cls := "MemoryCourtModel", name := "helps", desc := "(II)I" } : Jvm.MethodName)) ∈ lw_tbl := List.mem_of_getElem? (i := 1819) (by decide +kernel)
theorem tm_1820 : (Jvm.Cond.instanceMethod ({ cls := "MemoryCourtModel", name := "helps", desc := "(II)I" } : Jvm.MethodName)) ∈ lw_tbl := List.mem_of_getElem? (i := 1820) (by decide +kernel)
theorem tm_1821 : (Jvm.Cond.selects "MemoryCourtModel" ({ cls := "MemoryCourtModel", name := "helps", desc := "(II)I" } : Jvm.MethodName) ({ cls := "MemoryCourtModel", name := "helps", desc := "(II)I" } : Jvm.MethodName)) ∈ lw_tbl := List.mem_of_getElem? (i := 1821) (by decide +kernel)
theorem tm_1822 : (Jvm.Cond.code ({ cls := "MemoryCourtModel", name := "helps", desc := "(II)I" } : Jvm.MethodName) prog_11_method_100_code (5 : Nat) (Option.some Jvm.ClassFile.FieldType.int)) ∈ lw_tbl := List.mem_of_getElem? (i := 1822) (by decide +kernel)
theorem tm_1255 : (Jvm.Cond.methodLink "MemoryCourtLaw" (270 : Nat) ({ cls := "MemoryCourtLaw", name := "wouldAppeal", desc := "(LMemoryCourt;I[J)I" } : Jvm.MethodName)) ∈ lw_tbl := List.mem_of_getElem? (i := 1255) (by decide +kernel)
theorem tm_1256 : (Jvm.Cond.static ({ cls := "MemoryCourtLaw", name := "wouldAppeal", desc := "(LMemoryCourt;I[J)I" } : Jvm.MethodName)) ∈ lw_tbl := List.mem_of_getElem? (i := 1256) (by decide +kernel)
theorem tm_1257 : (Jvm.Cond.codeWith ({ cls := "MemoryCourtLaw", name := "wouldAppeal", desc := "(LMemoryCourt;I[J)I" } : Jvm.MethodName) method_30_code (4 : Nat) (Option.some Jvm.ClassFile.FieldType.int) [((0 : Nat), (9 : Nat), (12 : Nat), (25 : Nat))]) ∈ lw_tbl := List.mem_of_getElem? (i := 1257) (by decide +kernel)
theorem tm_1827 : (Jvm.Cond.methodLink "MemoryCourtLaw" (272 : Nat) ({ cls := "MemoryCourtModel", name := "wouldAppeal", desc := "(I)I" } : Jvm.MethodName)) ∈ lw_tbl := List.mem_of_getElem? (i := 1827) (by decide +kernel)
theorem tm_1828 : (Jvm.Cond.instanceMethod ({ cls := "MemoryCourtModel", name := "wouldAppeal", desc := "(I)I" } : Jvm.MethodName)) ∈ lw_tbl := List.mem_of_getElem? (i := 1828) (by decide +kernel)
theorem tm_1829 : (Jvm.Cond.selects "MemoryCourtModel" ({ cls := "MemoryCourtModel", name := "wouldAppeal", desc := "(I)I" } : Jvm.MethodName) ({ cls := "MemoryCourtModel", name := "wouldAppeal", desc := "(I)I" } : Jvm.MethodName)) ∈ lw_tbl := List.mem_of_getElem? (i := 1829) (by decide +kernel)
theorem tm_1830 : (Jvm.Cond.code ({ cls := "MemoryCourtModel", name := "wouldAppeal", desc := "(I)I" } : Jvm.MethodName) prog_11_method_101_code (2 : Nat) (Option.some Jvm.ClassFile.FieldType.int)) ∈ lw_tbl := List.mem_of_getElem? (i := 1830) (by decide +kernel)
theorem tm_1263 : (Jvm.Cond.methodLink "MemoryCourtLaw" (273 : Nat) ({ cls := "MemoryCourtLaw", name := "printProcess", desc := "(LMemoryCourt;I[J)I" } : Jvm.MethodName)) ∈ lw_tbl := List.mem_of_getElem? (i := 1263) (by decide +kernel)
theorem tm_1264 : (Jvm.Cond.static ({ cls := "MemoryCourtLaw", name := "printProcess", desc := "(LMemoryCourt;I[J)I" } : Jvm.MethodName)) ∈ lw_tbl := List.mem_of_getElem? (i := 1264) (by decide +kernel)
theorem tm_1265 : (Jvm.Cond.codeWith ({ cls := "MemoryCourtLaw", name := "printProcess", desc := "(LMemoryCourt;I[J)I" } : Jvm.MethodName) method_31_code (4 : Nat) (Option.some Jvm.ClassFile.FieldType.int) [((0 : Nat), (9 : Nat), (12 : Nat), (13 : Nat))]) ∈ lw_tbl := List.mem_of_getElem? (i := 1265) (by decide +kernel)
theorem tm_1937 : (Jvm.Cond.methodLink "MemoryCourtLaw" (275 : Nat) ({ cls := "MemoryCourtModel", name := "printProcess", desc := "(I)I" } : Jvm.MethodName)) ∈ lw_tbl := List.mem_of_getElem? (i := 1937) (by decide +kernel)
theorem tm_1938 : (Jvm.Cond.instanceMethod ({ cls := "MemoryCourtModel", name := "printProcess", desc := "(I)I" } : Jvm.MethodName)) ∈ lw_tbl := List.mem_of_getElem? (i := 1938) (by decide +kernel)
theorem tm_1939 : (Jvm.Cond.selects "MemoryCourtModel" ({ cls := "MemoryCourtModel", name := "printProcess", desc := "(I)I" } : Jvm.MethodName) ({ cls := "MemoryCourtModel", name := "printProcess", desc := "(I)I" } : Jvm.MethodName)) ∈ lw_tbl := List.mem_of_getElem? (i := 1939) (by decide +kernel)
theorem tm_1940 : (Jvm.Cond.code ({ cls := "MemoryCourtModel", name := "printProcess", desc := "(I)I" } : Jvm.MethodName) prog_11_method_132_code (3 : Nat) (Option.some Jvm.ClassFile.FieldType.int)) ∈ lw_tbl := List.mem_of_getElem? (i := 1940) (by decide +kernel)
theorem tm_740 : (Jvm.Cond.methodLink "MemoryCourtLaw" (276 : Nat) ({ cls := "MemoryCourt", name := "outputByte", desc := "(I)I" } : Jvm.MethodName)) ∈ lw_tbl := List.mem_of_getElem? (i := 740) (by decide +kernel)
theorem tm_741 : (Jvm.Cond.instanceMethod ({ cls := "MemoryCourt", name := "outputByte", desc := "(I)I" } : Jvm.MethodName)) ∈ lw_tbl := List.mem_of_getElem? (i := 741) (by decide +kernel)
theorem tm_742 : (Jvm.Cond.selects "MemoryCourt" ({ cls := "MemoryCourt", name := "outputByte", desc := "(I)I" } : Jvm.MethodName) ({ cls := "MemoryCourt", name := "outputByte", desc := "(I)I" } : Jvm.MethodName)) ∈ lw_tbl := List.mem_of_getElem? (i := 742) (by decide +kernel)
theorem tm_743 : (Jvm.Cond.code ({ cls := "MemoryCourt", name := "outputByte", desc := "(I)I" } : Jvm.MethodName) prog_1_method_46_code (2 : Nat) (Option.some Jvm.ClassFile.FieldType.int)) ∈ lw_tbl := List.mem_of_getElem? (i := 743) (by decide +kernel)
theorem tm_1962 : (Jvm.Cond.methodLink "MemoryCourtLaw" (279 : Nat) ({ cls := "MemoryCourtModel", name := "outputByte", desc := "(I)I" } : Jvm.MethodName)) ∈ lw_tbl := List.mem_of_getElem? (i := 1962) (by decide +kernel)
theorem tm_1963 : (Jvm.Cond.instanceMethod ({ cls := "MemoryCourtModel", name := "outputByte", desc := "(I)I" } : Jvm.MethodName)) ∈ lw_tbl := List.mem_of_getElem? (i := 1963) (by decide +kernel)
theorem tm_1964 : (Jvm.Cond.selects "MemoryCourtModel" ({ cls := "MemoryCourtModel", name := "outputByte", desc := "(I)I" } : Jvm.MethodName) ({ cls := "MemoryCourtModel", name := "outputByte", desc := "(I)I" } : Jvm.MethodName)) ∈ lw_tbl := List.mem_of_getElem? (i := 1964) (by decide +kernel)
theorem tm_1965 : (Jvm.Cond.code ({ cls := "MemoryCourtModel", name := "outputByte", desc := "(I)I" } : Jvm.MethodName) prog_11_method_134_code (2 : Nat) (Option.some Jvm.ClassFile.FieldType.int)) ∈ lw_tbl := List.mem_of_getElem? (i := 1965) (by decide +kernel)
theorem tm_745 : (Jvm.Cond.methodLink "MemoryCourtLaw" (280 : Nat) ({ cls := "MemoryCourt", name := "saveState", desc := "()I" } : Jvm.MethodName)) ∈ lw_tbl := List.mem_of_getElem? (i := 745) (by decide +kernel)
theorem tm_746 : (Jvm.Cond.instanceMethod ({ cls := "MemoryCourt", name := "saveState", desc := "()I" } : Jvm.MethodName)) ∈ lw_tbl := List.mem_of_getElem? (i := 746) (by decide +kernel)
theorem tm_747 : (Jvm.Cond.selects "MemoryCourt" ({ cls := "MemoryCourt", name := "saveState", desc := "()I" } : Jvm.MethodName) ({ cls := "MemoryCourt", name := "saveState", desc := "()I" } : Jvm.MethodName)) ∈ lw_tbl := List.mem_of_getElem? (i := 747) (by decide +kernel)
theorem tm_748 : (Jvm.Cond.code ({ cls := "MemoryCourt", name := "saveState", desc := "()I" } : Jvm.MethodName) prog_1_method_47_code (1 : Nat) (Option.some Jvm.ClassFile.FieldType.int)) ∈ lw_tbl := List.mem_of_getElem? (i := 748) (by decide +kernel)
theorem tm_1454 : (Jvm.Cond.methodLink "MemoryCourtLaw" (283 : Nat) ({ cls := "MemoryCourtModel", name := "saveState", desc := "()I" } : Jvm.MethodName)) ∈ lw_tbl := List.mem_of_getElem? (i := 1454) (by decide +kernel)
theorem tm_1455 : (Jvm.Cond.instanceMethod ({ cls := "MemoryCourtModel", name := "saveState", desc := "()I" } : Jvm.MethodName)) ∈ lw_tbl := List.mem_of_getElem? (i := 1455) (by decide +kernel)
theorem tm_1456 : (Jvm.Cond.selects "MemoryCourtModel" ({ cls := "MemoryCourtModel", name := "saveState", desc := "()I" } : Jvm.MethodName) ({ cls := "MemoryCourtModel", name := "saveState", desc := "()I" } : Jvm.MethodName)) ∈ lw_tbl := List.mem_of_getElem? (i := 1456) (by decide +kernel)
theorem tm_1457 : (Jvm.Cond.code ({ cls := "MemoryCourtModel", name := "saveState", desc := "()I" } : Jvm.MethodName) prog_11_method_13_code (1 : Nat) (Option.some Jvm.ClassFile.FieldType.int)) ∈ lw_tbl := List.mem_of_getElem? (i := 1457) (by decide +kernel)
theorem tm_1288 : (Jvm.Cond.methodLink "MemoryCourtLaw" (284 : Nat) ({ cls := "MemoryCourtLaw", name := "restoreState", desc := "(LMemoryCourt;[J)I" } : Jvm.MethodName)) ∈ lw_tbl := List.mem_of_getElem? (i := 1288) (by decide +kernel)
theorem tm_1289 : (Jvm.Cond.static ({ cls := "MemoryCourtLaw", name := "restoreState", desc := "(LMemoryCourt;[J)I" } : Jvm.MethodName)) ∈ lw_tbl := List.mem_of_getElem? (i := 1289) (by decide +kernel)
theorem tm_1290 : (Jvm.Cond.codeWith ({ cls := "MemoryCourtLaw", name := "restoreState", desc := "(LMemoryCourt;[J)I" } : Jvm.MethodName) method_32_code (3 : Nat) (Option.some Jvm.ClassFile.FieldType.int) [((0 : Nat), (8 : Nat), (11 : Nat), (51 : Nat))]) ∈ lw_tbl := List.mem_of_getElem? (i := 1290) (by decide +kernel)
theorem tm_1458 : (Jvm.Cond.methodLink "MemoryCourtLaw" (286 : Nat) ({ cls := "MemoryCourtModel", name := "restoreState", desc := "()I" } : Jvm.MethodName)) ∈ lw_tbl := List.mem_of_getElem? (i := 1458) (by decide +kernel)
theorem tm_1459 : (Jvm.Cond.instanceMethod ({ cls := "MemoryCourtModel", name := "restoreState", desc := "()I" } : Jvm.MethodName)) ∈ lw_tbl := List.mem_of_getElem? (i := 1459) (by decide +kernel)
theorem tm_1460 : (Jvm.Cond.selects "MemoryCourtModel" ({ cls := "MemoryCourtModel", name := "restoreState", desc := "()I" } : Jvm.MethodName) ({ cls := "MemoryCourtModel", name := "restoreState", desc := "()I" } : Jvm.MethodName)) ∈ lw_tbl := List.mem_of_getElem? (i := 1460) (by decide +kernel)
theorem tm_1461 : (Jvm.Cond.code ({ cls := "MemoryCourtModel", name := "restoreState", desc := "()I" } : Jvm.MethodName) prog_11_method_14_code (1 : Nat) (Option.some Jvm.ClassFile.FieldType.int)) ∈ lw_tbl := List.mem_of_getElem? (i := 1461) (by decide +kernel)
theorem sw_239 : SWL RL 239 yL_setOrder cL_setOrder 4 (some .int) [(0, 9, 12, 39)] 3 := ⟨⟨tm_1160, tm_1161, tm_107, tm_1162⟩, by decide +kernel⟩
theorem vl_L_241 : VL RL 241 RX9 yX9_setOrder cX9_setOrder 3 (some .int) 1 := ⟨⟨tm_1668, tm_1669, tm_1670, tm_119, tm_1671⟩, by decide +kernel⟩
theorem sw_242 : SWL RL 242 yL_undo cL_undo 3 (some .int) [(0, 8, 11, 51)] 2 := ⟨⟨tm_1168, tm_1169, tm_107, tm_1170⟩, by decide +kernel⟩
theorem vl_L_245 : VL RL 245 RX9 yX9_undo cX9_undo 2 (some .int) 0 := ⟨⟨tm_1446, tm_1447, tm_1448, tm_119, tm_1449⟩, by decide +kernel⟩
theorem sw_246 : SWL RL 246 yL_metIn cL_metIn 5 (some .int) [(0, 10, 13, 13), (0, 10, 17, 39)] 4 := ⟨⟨tm_1180, tm_1181, tm_107, tm_1182⟩, by decide +kernel⟩
theorem vl_L_248 : VL RL 248 RX9 yX9_metIn cX9_metIn 3 (some .int) 2 := ⟨⟨tm_1779, tm_1780, tm_1781, tm_119, tm_1782⟩, by decide +kernel⟩
theorem sw_249 : SWL RL 249 yL_refusedIn cL_refusedIn 5 (some .int) [(0, 10, 13, 13), (0, 10, 17, 39)] 4 := ⟨⟨tm_1192, tm_1193, tm_107, tm_1194⟩, by decide +kernel⟩
theorem vl_L_251 : VL RL 251 RX9 yX9_refusedIn cX9_refusedIn 3 (some .int) 2 := ⟨⟨tm_1795, tm_1796, tm_1797, tm_119, tm_1798⟩, by decide +kernel⟩
theorem sw_252 : SWL RL 252 yL_wouldFine cL_wouldFine 4 (some .int) [(0, 9, 12, 13)] 3 := ⟨⟨tm_1199, tm_1200, tm_107, tm_1201⟩, by decide +kernel⟩
theorem vl_L_254 : VL RL 254 RX9 yX9_wouldFine cX9_wouldFine 4 (some .int) 1 := ⟨⟨tm_1807, tm_1808, tm_1809, tm_119, tm_1810⟩, by decide +kernel⟩
theorem sw_255 : SWL RL 255 yL_wouldPay cL_wouldPay 4 (some .int) [(0, 9, 12, 13)] 3 := ⟨⟨tm_1211, tm_1212, tm_107, tm_1213⟩, by decide +kernel⟩
theorem vl_L_257 : VL RL 257 RX9 yX9_wouldPay cX9_wouldPay 4 (some .int) 1 := ⟨⟨tm_1799, tm_1800, tm_1801, tm_119, tm_1802⟩, by decide +kernel⟩
theorem sw_258 : SWL RL 258 yL_freeIn cL_freeIn 4 (some .int) [(0, 9, 12, 39)] 3 := ⟨⟨tm_1222, tm_1223, tm_107, tm_1224⟩, by decide +kernel⟩
theorem vl_L_260 : VL RL 260 RX9 yX9_freeIn cX9_freeIn 3 (some .int) 1 := ⟨⟨tm_1803, tm_1804, tm_1805, tm_119, tm_1806⟩, by decide +kernel⟩
theorem sw_261 : SWL RL 261 yL_processIn cL_processIn 6 (some .int) [(0, 12, 15, 13), (0, 12, 19, 39)] 5 := ⟨⟨tm_1233, tm_1234, tm_107, tm_1235⟩, by decide +kernel⟩
theorem vl_L_263 : VL RL 263 RX9 yX9_processIn cX9_processIn 6 (some .int) 3 := ⟨⟨tm_1811, tm_1812, tm_1813, tm_119, tm_1814⟩, by decide +kernel⟩
theorem sw_264 : SWL RL 264 yL_bestOrder cL_bestOrder 4 (some .int) [(0, 9, 12, 39)] 3 := ⟨⟨tm_1241, tm_1242, tm_107, tm_1243⟩, by decide +kernel⟩
theorem vl_L_266 : VL RL 266 RX9 yX9_bestOrder cX9_bestOrder 6 (some .int) 1 := ⟨⟨tm_1815, tm_1816, tm_1817, tm_119, tm_1818⟩, by decide +kernel⟩
theorem sw_267 : SWL RL 267 yL_helps cL_helps 5 (some .int) [(0, 10, 13, 13)] 4 := ⟨⟨tm_1248, tm_1249, tm_107, tm_1250⟩, by decide +kernel⟩
theorem vl_L_269 : VL RL 269 RX9 yX9_helps cX9_helps 5 (some .int) 2 := ⟨⟨tm_1819, tm_1820, tm_1821, tm_119, tm_1822⟩, by decide +kernel⟩
theorem sw_270 : SWL RL 270 yL_wouldAppeal cL_wouldAppeal 4 (some .int) [(0, 9, 12, 25)] 3 := ⟨⟨tm_1255, tm_1256, tm_107, tm_1257⟩, by decide +kernel⟩
theorem vl_L_272 : VL RL 272 RX9 yX9_wouldAppeal cX9_wouldAppeal 2 (some .int) 1 := ⟨⟨tm_1827, tm_1828, tm_1829, tm_119, tm_1830⟩, by decide +kernel⟩
theorem sw_273 : SWL RL 273 yL_printProcess cL_printProcess 4 (some .int) [(0, 9, 12, 13)] 3 := ⟨⟨tm_1263, tm_1264, tm_107, tm_1265⟩, by decide +kernel⟩
theorem vl_L_275 : VL RL 275 RX9 yX9_printProcess cX9_printProcess 3 (some .int) 1 := ⟨⟨tm_1937, tm_1938, tm_1939, tm_119, tm_1940⟩, by decide +kernel⟩
theorem vl_L_276 : VL RL 276 RX8 yX8_outputByte cX8_outputByte 2 (some .int) 1 := ⟨⟨tm_740, tm_741, tm_742, tm_108, tm_743⟩, by decide +kernel⟩
theorem vl_L_279 : VL RL 279 RX9 yX9_outputByte cX9_outputByte 2 (some .int) 1 := ⟨⟨tm_1962, tm_1963, tm_1964, tm_119, tm_1965⟩, by decide +kernel⟩
theorem vl_L_280 : VL RL 280 RX8 yX8_saveState cX8_saveState 1 (some .int) 0 := ⟨⟨tm_745, tm_746, tm_747, tm_108, tm_748⟩, by decide +kernel⟩
theorem vl_L_283 : VL RL 283 RX9 yX9_saveState cX9_saveState 1 (some .int) 0 := ⟨⟨tm_1454, tm_1455, tm_1456, tm_119, tm_1457⟩, by decide +kernel⟩
theorem sw_284 : SWL RL 284 yL_restoreState cL_restoreState 3 (some .int) [(0, 8, 11, 51)] 2 := ⟨⟨tm_1288, tm_1289, tm_107, tm_1290⟩, by decide +kernel⟩
theorem vl_L_286 : VL RL 286 RX9 yX9_restoreState cX9_restoreState 1 (some .int) 0 := ⟨⟨tm_1458, tm_1459, tm_1460, tm_119, tm_1461⟩, by decide +kernel⟩
theorem dL_law_1672 : decode cL_law 1672 = .ok (.aload_n 1, 1) := by decide +kernel
theorem dL_law_1673 : decode cL_law 1673 = .ok (.aload_n 0, 1) := by decide +kernel
theorem dL_law_1674 : decode cL_law 1674 = .ok (.iload 4, 2) := by decide +kernel
theorem dL_law_1676 : decode cL_law 1676 = .ok (.iconst 1, 1) := by decide +kernel
theorem dL_law_1677 : decode cL_law 1677 = .ok (.iadd, 1) := by decide +kernel
theorem dL_law_1678 : decode cL_law 1678 = .ok (.iaload, 1) := by decide +kernel
theorem dL_law_1679 : decode cL_law 1679 = .ok (.aload_n 3, 1) := by decide +kernel
theorem dL_law_1680 : decode cL_law 1680 = .ok (.invokestatic 239, 3) := by decide +kernel
theorem dL_law_1683 : decode cL_law 1683 = .ok (.istore 5, 2) := by decide +kernel
theorem dL_law_1685 : decode cL_law 1685 = .ok (.aload_n 2, 1) := by decide +kernel
theorem dL_law_1686 : decode cL_law 1686 = .ok (.aload_n 0, 1) := by decide +kernel
theorem dL_law_1687 : decode cL_law 1687 = .ok (.iload 4, 2) := by decide +kernel
theorem dL_law_1689 : decode cL_law 1689 = .ok (.iconst 1, 1) := by decide +kernel
theorem dL_law_1690 : decode cL_law 1690 = .ok (.iadd, 1) := by decide +kernel
theorem dL_law_1691 : decode cL_law 1691 = .ok (.iaload, 1) := by decide +kernel
theorem dL_law_1692 : decode cL_law 1692 = .ok (.invokevirtual 241, 3) := by decide +kernel
theorem dL_law_1695 : decode cL_law 1695 = .ok (.istore 6, 2) := by decide +kernel
theorem dL_law_1697 : decode cL_law 1697 = .ok (.aload_n 2, 1) := by decide +kernel
theorem dL_law_1698 : decode cL_law 1698 = .ok (.invokevirtual 152, 3) := by decide +kernel
theorem dL_law_1701 : decode cL_law 1701 = .ok (.iload 5, 2) := by decide +kernel
theorem dL_law_1703 : decode cL_law 1703 = .ok (.if_icmp .eq 5, 3) := by decide +kernel
theorem dL_law_1706 : decode cL_law 1706 = .ok (.iconst 0, 1) := by decide +kernel
theorem dL_law_1707 : decode cL_law 1707 = .ok (.ireturn, 1) := by decide +kernel
theorem dL_law_1708 : decode cL_law 1708 = .ok (.iload 5, 2) := by decide +kernel
theorem dL_law_1710 : decode cL_law 1710 = .ok (.ifCond .ne 15, 3) := by decide +kernel
theorem dL_law_1713 : decode cL_law 1713 = .ok (.aload_n 3, 1) := by decide +kernel
theorem dL_law_1714 : decode cL_law 1714 = .ok (.iconst 0, 1) := by decide +kernel
theorem dL_law_1715 : decode cL_law 1715 = .ok (.laload, 1) := by decide +kernel
theorem dL_law_1716 : decode cL_law 1716 = .ok (.iload 6, 2) := by decide +kernel
theorem dL_law_1718 : decode cL_law 1718 = .ok (.i2l, 1) := by decide +kernel
theorem dL_law_1719 : decode cL_law 1719 = .ok (.lcmp, 1) := by decide +kernel
theorem dL_law_1720 : decode cL_law 1720 = .ok (.ifCond .eq 5, 3) := by decide +kernel
theorem dL_law_1723 : decode cL_law 1723 = .ok (.iconst 0, 1) := by decide +kernel
theorem dL_law_1724 : decode cL_law 1724 = .ok (.ireturn, 1) := by decide +kernel
theorem dL_law_1725 : decode cL_law 1725 = .ok (.goto 749, 3) := by decide +kernel
theorem dL_law_1728 : decode cL_law 1728 = .ok (.aload_n 1, 1) := by decide +kernel
theorem dL_law_1729 : decode cL_law 1729 = .ok (.aload_n 3, 1) := by decide +kernel
theorem dL_law_1730 : decode cL_law 1730 = .ok (.invokestatic 242, 3) := by decide +kernel
theorem dL_law_1733 : decode cL_law 1733 = .ok (.istore 5, 2) := by decide +kernel
theorem dL_law_1735 : decode cL_law 1735 = .ok (.aload_n 2, 1) := by decide +kernel
theorem dL_law_1736 : decode cL_law 1736 = .ok (.invokevirtual 245, 3) := by decide +kernel
theorem dL_law_1739 : decode cL_law 1739 = .ok (.istore 6, 2) := by decide +kernel
theorem dL_law_1741 : decode cL_law 1741 = .ok (.aload_n 2, 1) := by decide +kernel
theorem dL_law_1742 : decode cL_law 1742 = .ok (.invokevirtual 152, 3) := by decide +kernel
theorem dL_law_1745 : decode cL_law 1745 = .ok (.iload 5, 2) := by decide +kernel
theorem dL_law_1747 : decode cL_law 1747 = .ok (.if_icmp .eq 5, 3) := by decide +kernel
theorem dL_law_1750 : decode cL_law 1750 = .ok (.iconst 0, 1) := by decide +kernel
theorem dL_law_1751 : decode cL_law 1751 = .ok (.ireturn, 1) := by decide +kernel
theorem dL_law_1752 : decode cL_law 1752 = .ok (.iload 5, 2) := by decide +kernel
theorem dL_law_1754 : decode cL_law 1754 = .ok (.ifCond .ne 15, 3) := by decide +kernel
theorem dL_law_1757 : decode cL_law 1757 = .ok (.aload_n 3, 1) := by decide +kernel
theorem dL_law_1758 : decode cL_law 1758 = .ok (.iconst 0, 1) := by decide +kernel
theorem dL_law_1759 : decode cL_law 1759 = .ok (.laload, 1) := by decide +kernel
theorem dL_law_1760 : decode cL_law 1760 = .ok (.iload 6, 2) := by decide +kernel
theorem dL_law_1762 : decode cL_law 1762 = .ok (.i2l, 1) := by decide +kernel
theorem dL_law_1763 : decode cL_law 1763 = .ok (.lcmp, 1) := by decide +kernel
theorem dL_law_1764 : decode cL_law 1764 = .ok (.ifCond .eq 5, 3) := by decide +kernel
theorem dL_law_1767 : decode cL_law 1767 = .ok (.iconst 0, 1) := by decide +kernel
theorem dL_law_1768 : decode cL_law 1768 = .ok (.ireturn, 1) := by decide +kernel
theorem dL_law_1769 : decode cL_law 1769 = .ok (.goto 705, 3) := by decide +kernel
theorem dL_law_1772 : decode cL_law 1772 = .ok (.aload_n 1, 1) := by decide +kernel
theorem dL_law_1773 : decode cL_law 1773 = .ok (.aload_n 0, 1) := by decide +kernel
theorem dL_law_1774 : decode cL_law 1774 = .ok (.iload 4, 2) := by decide +kernel
theorem dL_law_1776 : decode cL_law 1776 = .ok (.iconst 1, 1) := by decide +kernel
theorem dL_law_1777 : decode cL_law 1777 = .ok (.iadd, 1) := by decide +kernel
theorem dL_law_1778 : decode cL_law 1778 = .ok (.iaload, 1) := by decide +kernel
theorem dL_law_1779 : decode cL_law 1779 = .ok (.aload_n 0, 1) := by decide +kernel
theorem dL_law_1780 : decode cL_law 1780 = .ok (.iload 4, 2) := by decide +kernel
theorem dL_law_1782 : decode cL_law 1782 = .ok (.iconst 2, 1) := by decide +kernel
theorem dL_law_1783 : decode cL_law 1783 = .ok (.iadd, 1) := by decide +kernel
theorem dL_law_1784 : decode cL_law 1784 = .ok (.iaload, 1) := by decide +kernel
theorem dL_law_1785 : decode cL_law 1785 = .ok (.aload_n 3, 1) := by decide +kernel
theorem dL_law_1786 : decode cL_law 1786 = .ok (.invokestatic 246, 3) := by decide +kernel
theorem dL_law_1789 : decode cL_law 1789 = .ok (.istore 5, 2) := by decide +kernel
theorem dL_law_1791 : decode cL_law 1791 = .ok (.aload_n 2, 1) := by decide +kernel
theorem dL_law_1792 : decode cL_law 1792 = .ok (.aload_n 0, 1) := by decide +kernel
theorem dL_law_1793 : decode cL_law 1793 = .ok (.iload 4, 2) := by decide +kernel
theorem dL_law_1795 : decode cL_law 1795 = .ok (.iconst 1, 1) := by decide +kernel
theorem dL_law_1796 : decode cL_law 1796 = .ok (.iadd, 1) := by decide +kernel
theorem dL_law_1797 : decode cL_law 1797 = .ok (.iaload, 1) := by decide +kernel
theorem dL_law_1798 : decode cL_law 1798 = .ok (.aload_n 0, 1) := by decide +kernel
theorem dL_law_1799 : decode cL_law 1799 = .ok (.iload 4, 2) := by decide +kernel
theorem dL_law_1801 : decode cL_law 1801 = .ok (.iconst 2, 1) := by decide +kernel
theorem dL_law_1802 : decode cL_law 1802 = .ok (.iadd, 1) := by decide +kernel
theorem dL_law_1803 : decode cL_law 1803 = .ok (.iaload, 1) := by decide +kernel
theorem dL_law_1804 : decode cL_law 1804 = .ok (.invokevirtual 248, 3) := by decide +kernel
theorem dL_law_1807 : decode cL_law 1807 = .ok (.istore 6, 2) := by decide +kernel
theorem dL_law_1809 : decode cL_law 1809 = .ok (.aload_n 2, 1) := by decide +kernel
theorem dL_law_1810 : decode cL_law 1810 = .ok (.invokevirtual 152, 3) := by decide +kernel
theorem dL_law_1813 : decode cL_law 1813 = .ok (.iload 5, 2) := by decide +kernel
theorem dL_law_1815 : decode cL_law 1815 = .ok (.if_icmp .eq 5, 3) := by decide +kernel
theorem dL_law_1818 : decode cL_law 1818 = .ok (.iconst 0, 1) := by decide +kernel
theorem dL_law_1819 : decode cL_law 1819 = .ok (.ireturn, 1) := by decide +kernel
theorem dL_law_1820 : decode cL_law 1820 = .ok (.iload 5, 2) := by decide +kernel
theorem dL_law_1822 : decode cL_law 1822 = .ok (.ifCond .ne 15, 3) := by decide +kernel
theorem dL_law_1825 : decode cL_law 1825 = .ok (.aload_n 3, 1) := by decide +kernel
theorem dL_law_1826 : decode cL_law 1826 = .ok (.iconst 0, 1) := by decide +kernel
theorem dL_law_1827 : decode cL_law 1827 = .ok (.laload, 1) := by decide +kernel
theorem dL_law_1828 : decode cL_law 1828 = .ok (.iload 6, 2) := by decide +kernel
theorem dL_law_1830 : decode cL_law 1830 = .ok (.i2l, 1) := by decide +kernel
theorem dL_law_1831 : decode cL_law 1831 = .ok (.lcmp, 1) := by decide +kernel
theorem dL_law_1832 : decode cL_law 1832 = .ok (.ifCond .eq 5, 3) := by decide +kernel
theorem dL_law_1835 : decode cL_law 1835 = .ok (.iconst 0, 1) := by decide +kernel
theorem dL_law_1836 : decode cL_law 1836 = .ok (.ireturn, 1) := by decide +kernel
theorem dL_law_1837 : decode cL_law 1837 = .ok (.goto 637, 3) := by decide +kernel
theorem dL_law_1840 : decode cL_law 1840 = .ok (.aload_n 1, 1) := by decide +kernel
theorem dL_law_1841 : decode cL_law 1841 = .ok (.aload_n 0, 1) := by decide +kernel
theorem dL_law_1842 : decode cL_law 1842 = .ok (.iload 4, 2) := by decide +kernel
theorem dL_law_1844 : decode cL_law 1844 = .ok (.iconst 1, 1) := by decide +kernel
theorem dL_law_1845 : decode cL_law 1845 = .ok (.iadd, 1) := by decide +kernel
theorem dL_law_1846 : decode cL_law 1846 = .ok (.iaload, 1) := by decide +kernel
theorem dL_law_1847 : decode cL_law 1847 = .ok (.aload_n 0, 1) := by decide +kernel
theorem dL_law_1848 : decode cL_law 1848 = .ok (.iload 4, 2) := by decide +kernel
theorem dL_law_1850 : decode cL_law 1850 = .ok (.iconst 2, 1) := by decide +kernel
theorem dL_law_1851 : decode cL_law 1851 = .ok (.iadd, 1) := by decide +kernel
theorem dL_law_1852 : decode cL_law 1852 = .ok (.iaload, 1) := by decide +kernel
theorem dL_law_1853 : decode cL_law 1853 = .ok (.aload_n 3, 1) := by decide +kernel
theorem dL_law_1854 : decode cL_law 1854 = .ok (.invokestatic 249, 3) := by decide +kernel
theorem dL_law_1857 : decode cL_law 1857 = .ok (.istore 5, 2) := by decide +kernel
theorem dL_law_1859 : decode cL_law 1859 = .ok (.aload_n 2, 1) := by decide +kernel
theorem dL_law_1860 : decode cL_law 1860 = .ok (.aload_n 0, 1) := by decide +kernel
theorem dL_law_1861 : decode cL_law 1861 = .ok (.iload 4, 2) := by decide +kernel
theorem dL_law_1863 : decode cL_law 1863 = .ok (.iconst 1, 1) := by decide +kernel
theorem dL_law_1864 : decode cL_law 1864 = .ok (.iadd, 1) := by decide +kernel
theorem dL_law_1865 : decode cL_law 1865 = .ok (.iaload, 1) := by decide +kernel
theorem dL_law_1866 : decode cL_law 1866 = .ok (.aload_n 0, 1) := by decide +kernel
theorem dL_law_1867 : decode cL_law 1867 = .ok (.iload 4, 2) := by decide +kernel
theorem dL_law_1869 : decode cL_law 1869 = .ok (.iconst 2, 1) := by decide +kernel
theorem dL_law_1870 : decode cL_law 1870 = .ok (.iadd, 1) := by decide +kernel
theorem dL_law_1871 : decode cL_law 1871 = .ok (.iaload, 1) := by decide +kernel
theorem dL_law_1872 : decode cL_law 1872 = .ok (.invokevirtual 251, 3) := by decide +kernel
theorem dL_law_1875 : decode cL_law 1875 = .ok (.istore 6, 2) := by decide +kernel
theorem dL_law_1877 : decode cL_law 1877 = .ok (.aload_n 2, 1) := by decide +kernel
theorem dL_law_1878 : decode cL_law 1878 = .ok (.invokevirtual 152, 3) := by decide +kernel
theorem dL_law_1881 : decode cL_law 1881 = .ok (.iload 5, 2) := by decide +kernel
theorem dL_law_1883 : decode cL_law 1883 = .ok (.if_icmp .eq 5, 3) := by decide +kernel
theorem dL_law_1886 : decode cL_law 1886 = .ok (.iconst 0, 1) := by decide +kernel
theorem dL_law_1887 : decode cL_law 1887 = .ok (.ireturn, 1) := by decide +kernel
theorem dL_law_1888 : decode cL_law 1888 = .ok (.iload 5, 2) := by decide +kernel
theorem dL_law_1890 : decode cL_law 1890 = .ok (.ifCond .ne 15, 3) := by decide +kernel
theorem dL_law_1893 : decode cL_law 1893 = .ok (.aload_n 3, 1) := by decide +kernel
theorem dL_law_1894 : decode cL_law 1894 = .ok (.iconst 0, 1) := by decide +kernel
theorem dL_law_1895 : decode cL_law 1895 = .ok (.laload, 1) := by decide +kernel
theorem dL_law_1896 : decode cL_law 1896 = .ok (.iload 6, 2) := by decide +kernel
theorem dL_law_1898 : decode cL_law 1898 = .ok (.i2l, 1) := by decide +kernel
theorem dL_law_1899 : decode cL_law 1899 = .ok (.lcmp, 1) := by decide +kernel
theorem dL_law_1900 : decode cL_law 1900 = .ok (.ifCond .eq 5, 3) := by decide +kernel
theorem dL_law_1903 : decode cL_law 1903 = .ok (.iconst 0, 1) := by decide +kernel
theorem dL_law_1904 : decode cL_law 1904 = .ok (.ireturn, 1) := by decide +kernel
theorem dL_law_1905 : decode cL_law 1905 = .ok (.goto 569, 3) := by decide +kernel
theorem dL_law_1908 : decode cL_law 1908 = .ok (.aload_n 1, 1) := by decide +kernel
theorem dL_law_1909 : decode cL_law 1909 = .ok (.aload_n 0, 1) := by decide +kernel
theorem dL_law_1910 : decode cL_law 1910 = .ok (.iload 4, 2) := by decide +kernel
theorem dL_law_1912 : decode cL_law 1912 = .ok (.iconst 1, 1) := by decide +kernel
theorem dL_law_1913 : decode cL_law 1913 = .ok (.iadd, 1) := by decide +kernel
theorem dL_law_1914 : decode cL_law 1914 = .ok (.iaload, 1) := by decide +kernel
theorem dL_law_1915 : decode cL_law 1915 = .ok (.aload_n 3, 1) := by decide +kernel
theorem dL_law_1916 : decode cL_law 1916 = .ok (.invokestatic 252, 3) := by decide +kernel
theorem dL_law_1919 : decode cL_law 1919 = .ok (.istore 5, 2) := by decide +kernel
theorem dL_law_1921 : decode cL_law 1921 = .ok (.aload_n 2, 1) := by decide +kernel
theorem dL_law_1922 : decode cL_law 1922 = .ok (.aload_n 0, 1) := by decide +kernel
theorem dL_law_1923 : decode cL_law 1923 = .ok (.iload 4, 2) := by decide +kernel
theorem dL_law_1925 : decode cL_law 1925 = .ok (.iconst 1, 1) := by decide +kernel
theorem dL_law_1926 : decode cL_law 1926 = .ok (.iadd, 1) := by decide +kernel
theorem dL_law_1927 : decode cL_law 1927 = .ok (.iaload, 1) := by decide +kernel
theorem dL_law_1928 : decode cL_law 1928 = .ok (.invokevirtual 254, 3) := by decide +kernel
theorem dL_law_1931 : decode cL_law 1931 = .ok (.istore 6, 2) := by decide +kernel
theorem dL_law_1933 : decode cL_law 1933 = .ok (.aload_n 2, 1) := by decide +kernel
theorem dL_law_1934 : decode cL_law 1934 = .ok (.invokevirtual 152, 3) := by decide +kernel
theorem dL_law_1937 : decode cL_law 1937 = .ok (.iload 5, 2) := by decide +kernel
theorem dL_law_1939 : decode cL_law 1939 = .ok (.if_icmp .eq 5, 3) := by decide +kernel
theorem dL_law_1942 : decode cL_law 1942 = .ok (.iconst 0, 1) := by decide +kernel
theorem dL_law_1943 : decode cL_law 1943 = .ok (.ireturn, 1) := by decide +kernel
theorem dL_law_1944 : decode cL_law 1944 = .ok (.iload 5, 2) := by decide +kernel
theorem dL_law_1946 : decode cL_law 1946 = .ok (.ifCond .ne 15, 3) := by decide +kernel
theorem dL_law_1949 : decode cL_law 1949 = .ok (.aload_n 3, 1) := by decide +kernel
theorem dL_law_1950 : decode cL_law 1950 = .ok (.iconst 0, 1) := by decide +kernel
theorem dL_law_1951 : decode cL_law 1951 = .ok (.laload, 1) := by decide +kernel
theorem dL_law_1952 : decode cL_law 1952 = .ok (.iload 6, 2) := by decide +kernel
theorem dL_law_1954 : decode cL_law 1954 = .ok (.i2l, 1) := by decide +kernel
theorem dL_law_1955 : decode cL_law 1955 = .ok (.lcmp, 1) := by decide +kernel
theorem dL_law_1956 : decode cL_law 1956 = .ok (.ifCond .eq 5, 3) := by decide +kernel
theorem dL_law_1959 : decode cL_law 1959 = .ok (.iconst 0, 1) := by decide +kernel
theorem dL_law_1960 : decode cL_law 1960 = .ok (.ireturn, 1) := by decide +kernel
theorem dL_law_1961 : decode cL_law 1961 = .ok (.goto 513, 3) := by decide +kernel
theorem dL_law_1964 : decode cL_law 1964 = .ok (.aload_n 1, 1) := by decide +kernel
theorem dL_law_1965 : decode cL_law 1965 = .ok (.aload_n 0, 1) := by decide +kernel
theorem dL_law_1966 : decode cL_law 1966 = .ok (.iload 4, 2) := by decide +kernel
theorem dL_law_1968 : decode cL_law 1968 = .ok (.iconst 1, 1) := by decide +kernel
theorem dL_law_1969 : decode cL_law 1969 = .ok (.iadd, 1) := by decide +kernel
theorem dL_law_1970 : decode cL_law 1970 = .ok (.iaload, 1) := by decide +kernel
theorem dL_law_1971 : decode cL_law 1971 = .ok (.aload_n 3, 1) := by decide +kernel
theorem dL_law_1972 : decode cL_law 1972 = .ok (.invokestatic 255, 3) := by decide +kernel
theorem dL_law_1975 : decode cL_law 1975 = .ok (.istore 5, 2) := by decide +kernel
theorem dL_law_1977 : decode cL_law 1977 = .ok (.aload_n 2, 1) := by decide +kernel
theorem dL_law_1978 : decode cL_law 1978 = .ok (.aload_n 0, 1) := by decide +kernel
theorem dL_law_1979 : decode cL_law 1979 = .ok (.iload 4, 2) := by decide +kernel
theorem dL_law_1981 : decode cL_law 1981 = .ok (.iconst 1, 1) := by decide +kernel
theorem dL_law_1982 : decode cL_law 1982 = .ok (.iadd, 1) := by decide +kernel
theorem dL_law_1983 : decode cL_law 1983 = .ok (.iaload, 1) := by decide +kernel
theorem dL_law_1984 : decode cL_law 1984 = .ok (.invokevirtual 257, 3) := by decide +kernel
theorem dL_law_1987 : decode cL_law 1987 = .ok (.istore 6, 2) := by decide +kernel
theorem dL_law_1989 : decode cL_law 1989 = .ok (.aload_n 2, 1) := by decide +kernel
theorem dL_law_1990 : decode cL_law 1990 = .ok (.invokevirtual 152, 3) := by decide +kernel
theorem dL_law_1993 : decode cL_law 1993 = .ok (.iload 5, 2) := by decide +kernel
theorem dL_law_1995 : decode cL_law 1995 = .ok (.if_icmp .eq 5, 3) := by decide +kernel
theorem dL_law_1998 : decode cL_law 1998 = .ok (.iconst 0, 1) := by decide +kernel
theorem dL_law_1999 : decode cL_law 1999 = .ok (.ireturn, 1) := by decide +kernel
theorem dL_law_2000 : decode cL_law 2000 = .ok (.iload 5, 2) := by decide +kernel
theorem dL_law_2002 : decode cL_law 2002 = .ok (.ifCond .ne 15, 3) := by decide +kernel
theorem dL_law_2005 : decode cL_law 2005 = .ok (.aload_n 3, 1) := by decide +kernel
theorem dL_law_2006 : decode cL_law 2006 = .ok (.iconst 0, 1) := by decide +kernel
theorem dL_law_2007 : decode cL_law 2007 = .ok (.laload, 1) := by decide +kernel
theorem dL_law_2008 : decode cL_law 2008 = .ok (.iload 6, 2) := by decide +kernel
theorem dL_law_2010 : decode cL_law 2010 = .ok (.i2l, 1) := by decide +kernel
theorem dL_law_2011 : decode cL_law 2011 = .ok (.lcmp, 1) := by decide +kernel
theorem dL_law_2012 : decode cL_law 2012 = .ok (.ifCond .eq 5, 3) := by decide +kernel
theorem dL_law_2015 : decode cL_law 2015 = .ok (.iconst 0, 1) := by decide +kernel
theorem dL_law_2016 : decode cL_law 2016 = .ok (.ireturn, 1) := by decide +kernel
theorem dL_law_2017 : decode cL_law 2017 = .ok (.goto 457, 3) := by decide +kernel
theorem dL_law_2020 : decode cL_law 2020 = .ok (.aload_n 1, 1) := by decide +kernel
theorem dL_law_2021 : decode cL_law 2021 = .ok (.aload_n 0, 1) := by decide +kernel
theorem dL_law_2022 : decode cL_law 2022 = .ok (.iload 4, 2) := by decide +kernel
theorem dL_law_2024 : decode cL_law 2024 = .ok (.iconst 1, 1) := by decide +kernel
theorem dL_law_2025 : decode cL_law 2025 = .ok (.iadd, 1) := by decide +kernel
theorem dL_law_2026 : decode cL_law 2026 = .ok (.iaload, 1) := by decide +kernel
theorem dL_law_2027 : decode cL_law 2027 = .ok (.aload_n 3, 1) := by decide +kernel
theorem dL_law_2028 : decode cL_law 2028 = .ok (.invokestatic 258, 3) := by decide +kernel
theorem dL_law_2031 : decode cL_law 2031 = .ok (.istore 5, 2) := by decide +kernel
theorem dL_law_2033 : decode cL_law 2033 = .ok (.aload_n 2, 1) := by decide +kernel
theorem dL_law_2034 : decode cL_law 2034 = .ok (.aload_n 0, 1) := by decide +kernel
theorem dL_law_2035 : decode cL_law 2035 = .ok (.iload 4, 2) := by decide +kernel
theorem dL_law_2037 : decode cL_law 2037 = .ok (.iconst 1, 1) := by decide +kernel
theorem dL_law_2038 : decode cL_law 2038 = .ok (.iadd, 1) := by decide +kernel
theorem dL_law_2039 : decode cL_law 2039 = .ok (.iaload, 1) := by decide +kernel
theorem dL_law_2040 : decode cL_law 2040 = .ok (.invokevirtual 260, 3) := by decide +kernel
theorem dL_law_2043 : decode cL_law 2043 = .ok (.istore 6, 2) := by decide +kernel
theorem dL_law_2045 : decode cL_law 2045 = .ok (.aload_n 2, 1) := by decide +kernel
theorem dL_law_2046 : decode cL_law 2046 = .ok (.invokevirtual 152, 3) := by decide +kernel
theorem dL_law_2049 : decode cL_law 2049 = .ok (.iload 5, 2) := by decide +kernel
theorem dL_law_2051 : decode cL_law 2051 = .ok (.if_icmp .eq 5, 3) := by decide +kernel
theorem dL_law_2054 : decode cL_law 2054 = .ok (.iconst 0, 1) := by decide +kernel
theorem dL_law_2055 : decode cL_law 2055 = .ok (.ireturn, 1) := by decide +kernel
theorem dL_law_2056 : decode cL_law 2056 = .ok (.iload 5, 2) := by decide +kernel
theorem dL_law_2058 : decode cL_law 2058 = .ok (.ifCond .ne 15, 3) := by decide +kernel
theorem dL_law_2061 : decode cL_law 2061 = .ok (.aload_n 3, 1) := by decide +kernel
theorem dL_law_2062 : decode cL_law 2062 = .ok (.iconst 0, 1) := by decide +kernel
theorem dL_law_2063 : decode cL_law 2063 = .ok (.laload, 1) := by decide +kernel
theorem dL_law_2064 : decode cL_law 2064 = .ok (.iload 6, 2) := by decide +kernel
theorem dL_law_2066 : decode cL_law 2066 = .ok (.i2l, 1) := by decide +kernel
theorem dL_law_2067 : decode cL_law 2067 = .ok (.lcmp, 1) := by decide +kernel
theorem dL_law_2068 : decode cL_law 2068 = .ok (.ifCond .eq 5, 3) := by decide +kernel
theorem dL_law_2071 : decode cL_law 2071 = .ok (.iconst 0, 1) := by decide +kernel
theorem dL_law_2072 : decode cL_law 2072 = .ok (.ireturn, 1) := by decide +kernel
theorem dL_law_2073 : decode cL_law 2073 = .ok (.goto 401, 3) := by decide +kernel
theorem dL_law_2076 : decode cL_law 2076 = .ok (.aload_n 1, 1) := by decide +kernel
theorem dL_law_2077 : decode cL_law 2077 = .ok (.aload_n 0, 1) := by decide +kernel
theorem dL_law_2078 : decode cL_law 2078 = .ok (.iload 4, 2) := by decide +kernel
theorem dL_law_2080 : decode cL_law 2080 = .ok (.iconst 1, 1) := by decide +kernel
theorem dL_law_2081 : decode cL_law 2081 = .ok (.iadd, 1) := by decide +kernel
theorem dL_law_2082 : decode cL_law 2082 = .ok (.iaload, 1) := by decide +kernel
theorem dL_law_2083 : decode cL_law 2083 = .ok (.aload_n 0, 1) := by decide +kernel
theorem dL_law_2084 : decode cL_law 2084 = .ok (.iload 4, 2) := by decide +kernel
theorem dL_law_2086 : decode cL_law 2086 = .ok (.iconst 2, 1) := by decide +kernel
theorem dL_law_2087 : decode cL_law 2087 = .ok (.iadd, 1) := by decide +kernel
theorem dL_law_2088 : decode cL_law 2088 = .ok (.iaload, 1) := by decide +kernel
theorem dL_law_2089 : decode cL_law 2089 = .ok (.aload_n 0, 1) := by decide +kernel
theorem dL_law_2090 : decode cL_law 2090 = .ok (.iload 4, 2) := by decide +kernel
theorem dL_law_2092 : decode cL_law 2092 = .ok (.iconst 3, 1) := by decide +kernel
theorem dL_law_2093 : decode cL_law 2093 = .ok (.iadd, 1) := by decide +kernel
theorem dL_law_2094 : decode cL_law 2094 = .ok (.iaload, 1) := by decide +kernel
theorem dL_law_2095 : decode cL_law 2095 = .ok (.aload_n 3, 1) := by decide +kernel
theorem dL_law_2096 : decode cL_law 2096 = .ok (.invokestatic 261, 3) := by decide +kernel
theorem dL_law_2099 : decode cL_law 2099 = .ok (.istore 5, 2) := by decide +kernel
theorem dL_law_2101 : decode cL_law 2101 = .ok (.aload_n 2, 1) := by decide +kernel
theorem dL_law_2102 : decode cL_law 2102 = .ok (.aload_n 0, 1) := by decide +kernel
theorem dL_law_2103 : decode cL_law 2103 = .ok (.iload 4, 2) := by decide +kernel
theorem dL_law_2105 : decode cL_law 2105 = .ok (.iconst 1, 1) := by decide +kernel
theorem dL_law_2106 : decode cL_law 2106 = .ok (.iadd, 1) := by decide +kernel
theorem dL_law_2107 : decode cL_law 2107 = .ok (.iaload, 1) := by decide +kernel
theorem dL_law_2108 : decode cL_law 2108 = .ok (.aload_n 0, 1) := by decide +kernel
theorem dL_law_2109 : decode cL_law 2109 = .ok (.iload 4, 2) := by decide +kernel
theorem dL_law_2111 : decode cL_law 2111 = .ok (.iconst 2, 1) := by decide +kernel
theorem dL_law_2112 : decode cL_law 2112 = .ok (.iadd, 1) := by decide +kernel
theorem dL_law_2113 : decode cL_law 2113 = .ok (.iaload, 1) := by decide +kernel
theorem dL_law_2114 : decode cL_law 2114 = .ok (.aload_n 0, 1) := by decide +kernel
theorem dL_law_2115 : decode cL_law 2115 = .ok (.iload 4, 2) := by decide +kernel
theorem dL_law_2117 : decode cL_law 2117 = .ok (.iconst 3, 1) := by decide +kernel
theorem dL_law_2118 : decode cL_law 2118 = .ok (.iadd, 1) := by decide +kernel
theorem dL_law_2119 : decode cL_law 2119 = .ok (.iaload, 1) := by decide +kernel
theorem dL_law_2120 : decode cL_law 2120 = .ok (.invokevirtual 263, 3) := by decide +kernel
theorem dL_law_2123 : decode cL_law 2123 = .ok (.istore 6, 2) := by decide +kernel
theorem dL_law_2125 : decode cL_law 2125 = .ok (.aload_n 2, 1) := by decide +kernel
theorem dL_law_2126 : decode cL_law 2126 = .ok (.invokevirtual 152, 3) := by decide +kernel
theorem dL_law_2129 : decode cL_law 2129 = .ok (.iload 5, 2) := by decide +kernel
theorem dL_law_2131 : decode cL_law 2131 = .ok (.if_icmp .eq 5, 3) := by decide +kernel
theorem dL_law_2134 : decode cL_law 2134 = .ok (.iconst 0, 1) := by decide +kernel
theorem dL_law_2135 : decode cL_law 2135 = .ok (.ireturn, 1) := by decide +kernel
theorem dL_law_2136 : decode cL_law 2136 = .ok (.iload 5, 2) := by decide +kernel
theorem dL_law_2138 : decode cL_law 2138 = .ok (.ifCond .ne 15, 3) := by decide +kernel
theorem dL_law_2141 : decode cL_law 2141 = .ok (.aload_n 3, 1) := by decide +kernel
theorem dL_law_2142 : decode cL_law 2142 = .ok (.iconst 0, 1) := by decide +kernel
theorem dL_law_2143 : decode cL_law 2143 = .ok (.laload, 1) := by decide +kernel
theorem dL_law_2144 : decode cL_law 2144 = .ok (.iload 6, 2) := by decide +kernel
theorem dL_law_2146 : decode cL_law 2146 = .ok (.i2l, 1) := by decide +kernel
theorem dL_law_2147 : decode cL_law 2147 = .ok (.lcmp, 1) := by decide +kernel
theorem dL_law_2148 : decode cL_law 2148 = .ok (.ifCond .eq 5, 3) := by decide +kernel
theorem dL_law_2151 : decode cL_law 2151 = .ok (.iconst 0, 1) := by decide +kernel
theorem dL_law_2152 : decode cL_law 2152 = .ok (.ireturn, 1) := by decide +kernel
theorem dL_law_2153 : decode cL_law 2153 = .ok (.goto 321, 3) := by decide +kernel
theorem dL_law_2156 : decode cL_law 2156 = .ok (.aload_n 1, 1) := by decide +kernel
theorem dL_law_2157 : decode cL_law 2157 = .ok (.aload_n 0, 1) := by decide +kernel
theorem dL_law_2158 : decode cL_law 2158 = .ok (.iload 4, 2) := by decide +kernel
theorem dL_law_2160 : decode cL_law 2160 = .ok (.iconst 1, 1) := by decide +kernel
theorem dL_law_2161 : decode cL_law 2161 = .ok (.iadd, 1) := by decide +kernel
theorem dL_law_2162 : decode cL_law 2162 = .ok (.iaload, 1) := by decide +kernel
theorem dL_law_2163 : decode cL_law 2163 = .ok (.aload_n 3, 1) := by decide +kernel
theorem dL_law_2164 : decode cL_law 2164 = .ok (.invokestatic 264, 3) := by decide +kernel
theorem dL_law_2167 : decode cL_law 2167 = .ok (.istore 5, 2) := by decide +kernel
theorem dL_law_2169 : decode cL_law 2169 = .ok (.aload_n 2, 1) := by decide +kernel
theorem dL_law_2170 : decode cL_law 2170 = .ok (.aload_n 0, 1) := by decide +kernel
theorem dL_law_2171 : decode cL_law 2171 = .ok (.iload 4, 2) := by decide +kernel
theorem dL_law_2173 : decode cL_law 2173 = .ok (.iconst 1, 1) := by decide +kernel
theorem dL_law_2174 : decode cL_law 2174 = .ok (.iadd, 1) := by decide +kernel
theorem dL_law_2175 : decode cL_law 2175 = .ok (.iaload, 1) := by decide +kernel
theorem dL_law_2176 : decode cL_law 2176 = .ok (.invokevirtual 266, 3) := by decide +kernel
theorem dL_law_2179 : decode cL_law 2179 = .ok (.istore 6, 2) := by decide +kernel
theorem dL_law_2181 : decode cL_law 2181 = .ok (.aload_n 2, 1) := by decide +kernel
theorem dL_law_2182 : decode cL_law 2182 = .ok (.invokevirtual 152, 3) := by decide +kernel
theorem dL_law_2185 : decode cL_law 2185 = .ok (.iload 5, 2) := by decide +kernel
theorem dL_law_2187 : decode cL_law 2187 = .ok (.if_icmp .eq 5, 3) := by decide +kernel
theorem dL_law_2190 : decode cL_law 2190 = .ok (.iconst 0, 1) := by decide +kernel
theorem dL_law_2191 : decode cL_law 2191 = .ok (.ireturn, 1) := by decide +kernel
theorem dL_law_2192 : decode cL_law 2192 = .ok (.iload 5, 2) := by decide +kernel
theorem dL_law_2194 : decode cL_law 2194 = .ok (.ifCond .ne 15, 3) := by decide +kernel
theorem dL_law_2197 : decode cL_law 2197 = .ok (.aload_n 3, 1) := by decide +kernel
theorem dL_law_2198 : decode cL_law 2198 = .ok (.iconst 0, 1) := by decide +kernel
theorem dL_law_2199 : decode cL_law 2199 = .ok (.laload, 1) := by decide +kernel
theorem dL_law_2200 : decode cL_law 2200 = .ok (.iload 6, 2) := by decide +kernel
theorem dL_law_2202 : decode cL_law 2202 = .ok (.i2l, 1) := by decide +kernel
theorem dL_law_2203 : decode cL_law 2203 = .ok (.lcmp, 1) := by decide +kernel
theorem dL_law_2204 : decode cL_law 2204 = .ok (.ifCond .eq 5, 3) := by decide +kernel
theorem dL_law_2207 : decode cL_law 2207 = .ok (.iconst 0, 1) := by decide +kernel
theorem dL_law_2208 : decode cL_law 2208 = .ok (.ireturn, 1) := by decide +kernel
theorem dL_law_2209 : decode cL_law 2209 = .ok (.goto 265, 3) := by decide +kernel
theorem dL_law_2212 : decode cL_law 2212 = .ok (.aload_n 1, 1) := by decide +kernel
theorem dL_law_2213 : decode cL_law 2213 = .ok (.aload_n 0, 1) := by decide +kernel
theorem dL_law_2214 : decode cL_law 2214 = .ok (.iload 4, 2) := by decide +kernel
theorem dL_law_2216 : decode cL_law 2216 = .ok (.iconst 1, 1) := by decide +kernel
theorem dL_law_2217 : decode cL_law 2217 = .ok (.iadd, 1) := by decide +kernel
theorem dL_law_2218 : decode cL_law 2218 = .ok (.iaload, 1) := by decide +kernel
theorem dL_law_2219 : decode cL_law 2219 = .ok (.aload_n 0, 1) := by decide +kernel
theorem dL_law_2220 : decode cL_law 2220 = .ok (.iload 4, 2) := by decide +kernel
theorem dL_law_2222 : decode cL_law 2222 = .ok (.iconst 2, 1) := by decide +kernel
theorem dL_law_2223 : decode cL_law 2223 = .ok (.iadd, 1) := by decide +kernel
theorem dL_law_2224 : decode cL_law 2224 = .ok (.iaload, 1) := by decide +kernel
theorem dL_law_2225 : decode cL_law 2225 = .ok (.aload_n 3, 1) := by decide +kernel
theorem dL_law_2226 : decode cL_law 2226 = .ok (.invokestatic 267, 3) := by decide +kernel
theorem dL_law_2229 : decode cL_law 2229 = .ok (.istore 5, 2) := by decide +kernel
theorem dL_law_2231 : decode cL_law 2231 = .ok (.aload_n 2, 1) := by decide +kernel
theorem dL_law_2232 : decode cL_law 2232 = .ok (.aload_n 0, 1) := by decide +kernel
theorem dL_law_2233 : decode cL_law 2233 = .ok (.iload 4, 2) := by decide +kernel
theorem dL_law_2235 : decode cL_law 2235 = .ok (.iconst 1, 1) := by decide +kernel
theorem dL_law_2236 : decode cL_law 2236 = .ok (.iadd, 1) := by decide +kernel
theorem dL_law_2237 : decode cL_law 2237 = .ok (.iaload, 1) := by decide +kernel
theorem dL_law_2238 : decode cL_law 2238 = .ok (.aload_n 0, 1) := by decide +kernel
theorem dL_law_2239 : decode cL_law 2239 = .ok (.iload 4, 2) := by decide +kernel
theorem dL_law_2241 : decode cL_law 2241 = .ok (.iconst 2, 1) := by decide +kernel
theorem dL_law_2242 : decode cL_law 2242 = .ok (.iadd, 1) := by decide +kernel
theorem dL_law_2243 : decode cL_law 2243 = .ok (.iaload, 1) := by decide +kernel
theorem dL_law_2244 : decode cL_law 2244 = .ok (.invokevirtual 269, 3) := by decide +kernel
theorem dL_law_2247 : decode cL_law 2247 = .ok (.istore 6, 2) := by decide +kernel
theorem dL_law_2249 : decode cL_law 2249 = .ok (.aload_n 2, 1) := by decide +kernel
theorem dL_law_2250 : decode cL_law 2250 = .ok (.invokevirtual 152, 3) := by decide +kernel
theorem dL_law_2253 : decode cL_law 2253 = .ok (.iload 5, 2) := by decide +kernel
theorem dL_law_2255 : decode cL_law 2255 = .ok (.if_icmp .eq 5, 3) := by decide +kernel
theorem dL_law_2258 : decode cL_law 2258 = .ok (.iconst 0, 1) := by decide +kernel
theorem dL_law_2259 : decode cL_law 2259 = .ok (.ireturn, 1) := by decide +kernel
theorem dL_law_2260 : decode cL_law 2260 = .ok (.iload 5, 2) := by decide +kernel
theorem dL_law_2262 : decode cL_law 2262 = .ok (.ifCond .ne 15, 3) := by decide +kernel
theorem dL_law_2265 : decode cL_law 2265 = .ok (.aload_n 3, 1) := by decide +kernel
theorem dL_law_2266 : decode cL_law 2266 = .ok (.iconst 0, 1) := by decide +kernel
theorem dL_law_2267 : decode cL_law 2267 = .ok (.laload, 1) := by decide +kernel
theorem dL_law_2268 : decode cL_law 2268 = .ok (.iload 6, 2) := by decide +kernel
theorem dL_law_2270 : decode cL_law 2270 = .ok (.i2l, 1) := by decide +kernel
theorem dL_law_2271 : decode cL_law 2271 = .ok (.lcmp, 1) := by decide +kernel
theorem dL_law_2272 : decode cL_law 2272 = .ok (.ifCond .eq 5, 3) := by decide +kernel
theorem dL_law_2275 : decode cL_law 2275 = .ok (.iconst 0, 1) := by decide +kernel
theorem dL_law_2276 : decode cL_law 2276 = .ok (.ireturn, 1) := by decide +kernel
theorem dL_law_2277 : decode cL_law 2277 = .ok (.goto 197, 3) := by decide +kernel
theorem dL_law_2280 : decode cL_law 2280 = .ok (.aload_n 1, 1) := by decide +kernel
theorem dL_law_2281 : decode cL_law 2281 = .ok (.aload_n 0, 1) := by decide +kernel
theorem dL_law_2282 : decode cL_law 2282 = .ok (.iload 4, 2) := by decide +kernel
theorem dL_law_2284 : decode cL_law 2284 = .ok (.iconst 1, 1) := by decide +kernel
theorem dL_law_2285 : decode cL_law 2285 = .ok (.iadd, 1) := by decide +kernel
theorem dL_law_2286 : decode cL_law 2286 = .ok (.iaload, 1) := by decide +kernel
theorem dL_law_2287 : decode cL_law 2287 = .ok (.aload_n 3, 1) := by decide +kernel
theorem dL_law_2288 : decode cL_law 2288 = .ok (.invokestatic 270, 3) := by decide +kernel
theorem dL_law_2291 : decode cL_law 2291 = .ok (.istore 5, 2) := by decide +kernel
theorem dL_law_2293 : decode cL_law 2293 = .ok (.aload_n 2, 1) := by decide +kernel
theorem dL_law_2294 : decode cL_law 2294 = .ok (.aload_n 0, 1) := by decide +kernel
theorem dL_law_2295 : decode cL_law 2295 = .ok (.iload 4, 2) := by decide +kernel
theorem dL_law_2297 : decode cL_law 2297 = .ok (.iconst 1, 1) := by decide +kernel
theorem dL_law_2298 : decode cL_law 2298 = .ok (.iadd, 1) := by decide +kernel
theorem dL_law_2299 : decode cL_law 2299 = .ok (.iaload, 1) := by decide +kernel
theorem dL_law_2300 : decode cL_law 2300 = .ok (.invokevirtual 272, 3) := by decide +kernel
theorem dL_law_2303 : decode cL_law 2303 = .ok (.istore 6, 2) := by decide +kernel
theorem dL_law_2305 : decode cL_law 2305 = .ok (.aload_n 2, 1) := by decide +kernel
theorem dL_law_2306 : decode cL_law 2306 = .ok (.invokevirtual 152, 3) := by decide +kernel
theorem dL_law_2309 : decode cL_law 2309 = .ok (.iload 5, 2) := by decide +kernel
theorem dL_law_2311 : decode cL_law 2311 = .ok (.if_icmp .eq 5, 3) := by decide +kernel
theorem dL_law_2314 : decode cL_law 2314 = .ok (.iconst 0, 1) := by decide +kernel
theorem dL_law_2315 : decode cL_law 2315 = .ok (.ireturn, 1) := by decide +kernel
theorem dL_law_2316 : decode cL_law 2316 = .ok (.iload 5, 2) := by decide +kernel
theorem dL_law_2318 : decode cL_law 2318 = .ok (.ifCond .ne 15, 3) := by decide +kernel
theorem dL_law_2321 : decode cL_law 2321 = .ok (.aload_n 3, 1) := by decide +kernel
theorem dL_law_2322 : decode cL_law 2322 = .ok (.iconst 0, 1) := by decide +kernel
theorem dL_law_2323 : decode cL_law 2323 = .ok (.laload, 1) := by decide +kernel
theorem dL_law_2324 : decode cL_law 2324 = .ok (.iload 6, 2) := by decide +kernel
theorem dL_law_2326 : decode cL_law 2326 = .ok (.i2l, 1) := by decide +kernel
theorem dL_law_2327 : decode cL_law 2327 = .ok (.lcmp, 1) := by decide +kernel
theorem dL_law_2328 : decode cL_law 2328 = .ok (.ifCond .eq 5, 3) := by decide +kernel
theorem dL_law_2331 : decode cL_law 2331 = .ok (.iconst 0, 1) := by decide +kernel
theorem dL_law_2332 : decode cL_law 2332 = .ok (.ireturn, 1) := by decide +kernel
theorem dL_law_2333 : decode cL_law 2333 = .ok (.goto 141, 3) := by decide +kernel
theorem dL_law_2336 : decode cL_law 2336 = .ok (.aload_n 1, 1) := by decide +kernel
theorem dL_law_2337 : decode cL_law 2337 = .ok (.aload_n 0, 1) := by decide +kernel
theorem dL_law_2338 : decode cL_law 2338 = .ok (.iload 4, 2) := by decide +kernel
theorem dL_law_2340 : decode cL_law 2340 = .ok (.iconst 1, 1) := by decide +kernel
theorem dL_law_2341 : decode cL_law 2341 = .ok (.iadd, 1) := by decide +kernel
theorem dL_law_2342 : decode cL_law 2342 = .ok (.iaload, 1) := by decide +kernel
theorem dL_law_2343 : decode cL_law 2343 = .ok (.aload_n 3, 1) := by decide +kernel
theorem dL_law_2344 : decode cL_law 2344 = .ok (.invokestatic 273, 3) := by decide +kernel
theorem dL_law_2347 : decode cL_law 2347 = .ok (.istore 5, 2) := by decide +kernel
theorem dL_law_2349 : decode cL_law 2349 = .ok (.aload_n 2, 1) := by decide +kernel
theorem dL_law_2350 : decode cL_law 2350 = .ok (.aload_n 0, 1) := by decide +kernel
theorem dL_law_2351 : decode cL_law 2351 = .ok (.iload 4, 2) := by decide +kernel
theorem dL_law_2353 : decode cL_law 2353 = .ok (.iconst 1, 1) := by decide +kernel
theorem dL_law_2354 : decode cL_law 2354 = .ok (.iadd, 1) := by decide +kernel
theorem dL_law_2355 : decode cL_law 2355 = .ok (.iaload, 1) := by decide +kernel
theorem dL_law_2356 : decode cL_law 2356 = .ok (.invokevirtual 275, 3) := by decide +kernel
theorem dL_law_2359 : decode cL_law 2359 = .ok (.istore 6, 2) := by decide +kernel
theorem dL_law_2361 : decode cL_law 2361 = .ok (.aload_n 2, 1) := by decide +kernel
theorem dL_law_2362 : decode cL_law 2362 = .ok (.invokevirtual 152, 3) := by decide +kernel
theorem dL_law_2365 : decode cL_law 2365 = .ok (.iload 5, 2) := by decide +kernel
theorem dL_law_2367 : decode cL_law 2367 = .ok (.if_icmp .eq 5, 3) := by decide +kernel
theorem dL_law_2370 : decode cL_law 2370 = .ok (.iconst 0, 1) := by decide +kernel
theorem dL_law_2371 : decode cL_law 2371 = .ok (.ireturn, 1) := by decide +kernel
theorem dL_law_2372 : decode cL_law 2372 = .ok (.iload 5, 2) := by decide +kernel
theorem dL_law_2374 : decode cL_law 2374 = .ok (.ifCond .ne 15, 3) := by decide +kernel
theorem dL_law_2377 : decode cL_law 2377 = .ok (.aload_n 3, 1) := by decide +kernel
theorem dL_law_2378 : decode cL_law 2378 = .ok (.iconst 0, 1) := by decide +kernel
theorem dL_law_2379 : decode cL_law 2379 = .ok (.laload, 1) := by decide +kernel
theorem dL_law_2380 : decode cL_law 2380 = .ok (.iload 6, 2) := by decide +kernel
theorem dL_law_2382 : decode cL_law 2382 = .ok (.i2l, 1) := by decide +kernel
theorem dL_law_2383 : decode cL_law 2383 = .ok (.lcmp, 1) := by decide +kernel
theorem dL_law_2384 : decode cL_law 2384 = .ok (.ifCond .eq 5, 3) := by decide +kernel
theorem dL_law_2387 : decode cL_law 2387 = .ok (.iconst 0, 1) := by decide +kernel
theorem dL_law_2388 : decode cL_law 2388 = .ok (.ireturn, 1) := by decide +kernel
theorem dL_law_2389 : decode cL_law 2389 = .ok (.goto 85, 3) := by decide +kernel
theorem dL_law_2392 : decode cL_law 2392 = .ok (.aload_n 1, 1) := by decide +kernel
theorem dL_law_2393 : decode cL_law 2393 = .ok (.aload_n 0, 1) := by decide +kernel
theorem dL_law_2394 : decode cL_law 2394 = .ok (.iload 4, 2) := by decide +kernel
theorem dL_law_2396 : decode cL_law 2396 = .ok (.iconst 1, 1) := by decide +kernel
theorem dL_law_2397 : decode cL_law 2397 = .ok (.iadd, 1) := by decide +kernel
theorem dL_law_2398 : decode cL_law 2398 = .ok (.iaload, 1) := by decide +kernel
theorem dL_law_2399 : decode cL_law 2399 = .ok (.invokevirtual 276, 3) := by decide +kernel
theorem dL_law_2402 : decode cL_law 2402 = .ok (.aload_n 2, 1) := by decide +kernel
theorem dL_law_2403 : decode cL_law 2403 = .ok (.aload_n 0, 1) := by decide +kernel
theorem dL_law_2404 : decode cL_law 2404 = .ok (.iload 4, 2) := by decide +kernel
theorem dL_law_2406 : decode cL_law 2406 = .ok (.iconst 1, 1) := by decide +kernel
theorem dL_law_2407 : decode cL_law 2407 = .ok (.iadd, 1) := by decide +kernel
theorem dL_law_2408 : decode cL_law 2408 = .ok (.iaload, 1) := by decide +kernel
theorem dL_law_2409 : decode cL_law 2409 = .ok (.invokevirtual 279, 3) := by decide +kernel
theorem dL_law_2412 : decode cL_law 2412 = .ok (.if_icmp .eq 62, 3) := by decide +kernel
theorem dL_law_2415 : decode cL_law 2415 = .ok (.iconst 0, 1) := by decide +kernel
theorem dL_law_2416 : decode cL_law 2416 = .ok (.ireturn, 1) := by decide +kernel
theorem dL_law_2417 : decode cL_law 2417 = .ok (.aload_n 1, 1) := by decide +kernel
theorem dL_law_2418 : decode cL_law 2418 = .ok (.invokevirtual 280, 3) := by decide +kernel
theorem dL_law_2421 : decode cL_law 2421 = .ok (.aload_n 2, 1) := by decide +kernel
theorem dL_law_2422 : decode cL_law 2422 = .ok (.invokevirtual 283, 3) := by decide +kernel
theorem dL_law_2425 : decode cL_law 2425 = .ok (.if_icmp .eq 49, 3) := by decide +kernel
theorem dL_law_2428 : decode cL_law 2428 = .ok (.iconst 0, 1) := by decide +kernel
theorem dL_law_2429 : decode cL_law 2429 = .ok (.ireturn, 1) := by decide +kernel
theorem dL_law_2430 : decode cL_law 2430 = .ok (.aload_n 1, 1) := by decide +kernel
theorem dL_law_2431 : decode cL_law 2431 = .ok (.aload_n 3, 1) := by decide +kernel
theorem dL_law_2432 : decode cL_law 2432 = .ok (.invokestatic 284, 3) := by decide +kernel
theorem dL_law_2435 : decode cL_law 2435 = .ok (.istore 5, 2) := by decide +kernel
theorem dL_law_2437 : decode cL_law 2437 = .ok (.aload_n 2, 1) := by decide +kernel
theorem dL_law_2438 : decode cL_law 2438 = .ok (.invokevirtual 286, 3) := by decide +kernel
theorem dL_law_2441 : decode cL_law 2441 = .ok (.istore 6, 2) := by decide +kernel
theorem dL_law_2443 : decode cL_law 2443 = .ok (.aload_n 2, 1) := by decide +kernel
theorem dL_law_2444 : decode cL_law 2444 = .ok (.invokevirtual 152, 3) := by decide +kernel
theorem dL_law_2447 : decode cL_law 2447 = .ok (.iload 5, 2) := by decide +kernel
theorem dL_law_2449 : decode cL_law 2449 = .ok (.if_icmp .eq 5, 3) := by decide +kernel
theorem dL_law_2452 : decode cL_law 2452 = .ok (.iconst 0, 1) := by decide +kernel
theorem dL_law_2453 : decode cL_law 2453 = .ok (.ireturn, 1) := by decide +kernel
theorem dL_law_2454 : decode cL_law 2454 = .ok (.iload 5, 2) := by decide +kernel
theorem dL_law_2456 : decode cL_law 2456 = .ok (.ifCond .ne 15, 3) := by decide +kernel
theorem dL_law_2459 : decode cL_law 2459 = .ok (.aload_n 3, 1) := by decide +kernel
theorem dL_law_2460 : decode cL_law 2460 = .ok (.iconst 0, 1) := by decide +kernel
theorem dL_law_2461 : decode cL_law 2461 = .ok (.laload, 1) := by decide +kernel
theorem dL_law_2462 : decode cL_law 2462 = .ok (.iload 6, 2) := by decide +kernel
theorem dL_law_2464 : decode cL_law 2464 = .ok (.i2l, 1) := by decide +kernel
theorem dL_law_2465 : decode cL_law 2465 = .ok (.lcmp, 1) := by decide +kernel
theorem dL_law_2466 : decode cL_law 2466 = .ok (.ifCond .eq 5, 3) := by decide +kernel
theorem dL_law_2469 : decode cL_law 2469 = .ok (.iconst 0, 1) := by decide +kernel
theorem dL_law_2470 : decode cL_law 2470 = .ok (.ireturn, 1) := by decide +kernel
theorem dL_law_2471 : decode cL_law 2471 = .ok (.goto 3, 3) := by decide +kernel
def f_law_32 (n : Nat) (L : Nat) (xs : Nat → Int32) (v4 : Int32) (sv_0 : Value) (p1_0 : OS) (p1in_0 : OS) (p1ou_0 : OS) (p1ru_0 : OS) (p1no_0 : OS) (p1fo_0 : OS) (p1rd_0 : OS) (p1rr_0 : OS) (p1pa_0 : PS) (p2_0 : OS) (p3_0 : Nat → Int64) (so_0 : Option OS) : Option LST :=
  gI L (v4 + (1 : Int32)) (Let (xs (v4 + (1 : Int32)).toNatClampNeg) (fun x_1 : Int32 =>
  bnd4 (f_L_setOrder n sv_0 p1_0 p1no_0 p1pa_0 1 p3_0 x_1) (fun (p1no_2 : OS) (p1pa_3 : PS) (p3_4 : Nat → Int64) (r_5 : Int32) =>
  gI L (v4 + (1 : Int32)) (Let (xs (v4 + (1 : Int32)).toNatClampNeg) (fun x_7 : Int32 =>
  bnd2 (f_X9_setOrder n p2_0 x_7) (fun (p2_8 : OS) (r_9 : Int32) =>
  bnd (f_X9_thrown n p2_8) (fun (r_10 : Int32) =>
  if r_10 = r_5 then (
  if r_5 = 0 then (
  gI 1 (0 : Int32) (Let (p3_4 (0 : Int32).toNatClampNeg) (fun x_11 : Int64 =>
  if (lg_cmp x_11 ((r_9).toInt64)) = 0 then (
  some (p1_0, p1in_0, p1ou_0, p1ru_0, p1no_2, p1fo_0, p1rd_0, p1rr_0, p1pa_3, p2_8, p3_4, so_0)) else (
  none)))) else (
  some (p1_0, p1in_0, p1ou_0, p1ru_0, p1no_2, p1fo_0, p1rd_0, p1rr_0, p1pa_3, p2_8, p3_4, so_0))) else (
  none))))))))
set_option maxHeartbeats 4000000 in
set_option maxRecDepth 100000 in
theorem c_law_32 {p : Program} {l : Launch} {e : Env} {s : State} {m : MethodId} {below : List Frame} {meth : Method} {c : Code} {A : Nat → Prop} {Q : State → Prop} {b L : Nat} {xs : Nat → Int32} {k : KT} (n : Nat) (hE : EH k) (hx : XH l k) (hN : CCH k) (E : E0 p s m c cL_law 9 RL k A) (hX : va_X b L xs s s.heap) (hbl : b < s.heap.size) (hbA : ¬ A b) (hA : ∀ q : Nat, s.heap.size ≤ q → A q) (a_p1 : Nat → Nat) (a_p1in : Nat → Nat) (a_p1ou : Nat → Nat) (a_p1ru : Nat → Nat) (a_p1no : Nat → Nat) (a_p1fo : Nat → Nat) (a_p1rd : Nat → Nat) (a_p1rr : Nat → Nat) (a_p1pa : Nat → Nat) (a_p2 : Nat → Nat) (a_p3 : Nat → Nat) (pp_0 : Nat → Nat → Nat) (sa_0 : Nat → Nat) (v4 : Int32) (p1_0 : OS) (p1in_0 : OS) (p1ou_0 : OS) (p1ru_0 : OS) (p1no_0 : OS) (p1fo_0 : OS) (p1rd_0 : OS) (p1rr_0 : OS) (p1pa_0 : PS) (p2_0 : OS) (p3_0 : Nat → Int64) (so_0 : Option OS) (res : LST) (hf : f_law_32 n L xs v4 (svV sa_0 so_0) p1_0 p1in_0 p1ou_0 p1ru_0 p1no_0 p1fo_0 p1rd_0 p1rr_0 p1pa_0 p2_0 p3_0 so_0 = some res)
    (H : Heap) (locs : List Loc) (ls : Array Slot) (c0 s0 : Nat) (hc0 : c0 + 40 ≤ 601024) (hs0 : s0 + 8000 ≤ 7293034) (hW : WD k A s.heap ((List.flatten [wMCo k a_p1 (a_p1in 0) (a_p1ou 0) (a_p1ru 0) (a_p1no 0) (a_p1fo 0) (a_p1rd 0) (a_p1pa 0) (svV sa_0 so_0) p1_0, wBytes k a_p1in 600 p1in_0, wBytes k a_p1ou 1024 p1ou_0, wRules k a_p1ru p1ru_0, wCourt k a_p1no p1no_0, wCourt k a_p1fo p1fo_0, wReader k a_p1rd (a_p1in 0) (a_p1fo 0) (a_p1rr 0) p1rd_0, wRules k a_p1rr p1rr_0, wPast k a_p1pa pp_0 p1pa_0, wModel k a_p2 p2_0, wJArr k a_p3 1 p3_0] ++ savW k sa_0 so_0) ++ poolW k pp_0 p1pa_0.2) H locs) (hl : lv_has ls 9 [(0, .ref b), (1, .ref (a_p1 0)), (2, .ref (a_p2 0)), (3, .ref (a_p3 0)), (4, .int v4)])
    (hgo : ∀ (pp : Nat → Nat → Nat) (sa : Nat → Nat) (H : Heap) (locs : List Loc) (ls : Array Slot) (cells slots : Nat), cells ≤ c0 + 40 → slots ≤ s0 + 8000 → WD k A s.heap ((List.flatten [wMCo k a_p1 (a_p1in 0) (a_p1ou 0) (a_p1ru 0) (a_p1no 0) (a_p1fo 0) (a_p1rd 0) (a_p1pa 0) (svV sa (res.2.2.2.2.2.2.2.2.2.2.2)) (res.1), wBytes k a_p1in 600 (res.2.1), wBytes k a_p1ou 1024 (res.2.2.1), wRules k a_p1ru (res.2.2.2.1), wCourt k a_p1no (res.2.2.2.2.1), wCourt k a_p1fo (res.2.2.2.2.2.1), wReader k a_p1rd (a_p1in 0) (a_p1fo 0) (a_p1rr 0) (res.2.2.2.2.2.2.1), wRules k a_p1rr (res.2.2.2.2.2.2.2.1), wPast k a_p1pa pp (res.2.2.2.2.2.2.2.2.1), wModel k a_p2 (res.2.2.2.2.2.2.2.2.2.1), wJArr k a_p3 1 (res.2.2.2.2.2.2.2.2.2.2.1)] ++ savW k sa (res.2.2.2.2.2.2.2.2.2.2.2)) ++ poolW k pp (res.2.2.2.2.2.2.2.2.1).2) H locs → lv_has ls 9 [(0, .ref b), (1, .ref (a_p1 0)), (2, .ref (a_p2 0)), (3, .ref (a_p3 0)), (4, .int v4)] → W p l e room_1 s m #[Value.ref b] below meth c H locs cells slots Q (F0 m 2474 ls [])) :
    W p l e room_1 s m #[Value.ref b] below meth c H locs c0 s0 Q (F0 m 1672 ls []) := by
  unfold f_law_32 at hf
  refine k_aload_n E hl 1 dL_law_1672 rfl ?_
  refine k_aload_n E hl 0 dL_law_1673 rfl ?_
  refine k_iload E hl 4 dL_law_1674 rfl ?_
  refine lv_iconst (v := (1 : Int32)) E.hx E.hb dL_law_1676 ic_1 ?_
  refine lv_iadd E.hx E.hb dL_law_1677 ?_
  obtain ⟨hin, hf⟩ := oI hf
  obtain ⟨x_1, ex_1, hf⟩ := oL hf
  refine va_sld E.hx E.hb hX hbl hbA hW.2.2 hin dL_law_1678 ?_
  refine k_topi ex_1 ?_
  refine k_aload_n E hl 3 dL_law_1679 rfl ?_
  obtain ⟨p1no_2, p1pa_3, p3_4, r_5, hg, hf⟩ := ob4 hf
  refine k_callSXGi (As := [.ref (a_p1 0), .int x_1, .ref (a_p3 0)]) (rest := []) (ws2 := fun u => (List.flatten [wMCo k a_p1 (a_p1in 0) (a_p1ou 0) (a_p1ru 0) (a_p1no 0) (a_p1fo 0) (a_p1rd 0) (a_p1pa 0) (svV sa_0 so_0) p1_0, wBytes k a_p1in 600 p1in_0, wBytes k a_p1ou 1024 p1ou_0, wRules k a_p1ru p1ru_0, wCourt k a_p1no (u.1), wCourt k a_p1fo p1fo_0, wReader k a_p1rd (a_p1in 0) (a_p1fo 0) (a_p1rr 0) p1rd_0, wRules k a_p1rr p1rr_0, wPast k a_p1pa (u.2.2.2) (u.2.1), wModel k a_p2 p2_0, wJArr k a_p3 1 (u.2.2.1)] ++ savW k sa_0 so_0) ++ poolW k (u.2.2.2) (u.2.1).2) (c_L_setOrder n l k hN hx a_p1 a_p1in a_p1ou a_p1ru a_p1no a_p1fo a_p1rd a_p1pa a_p3 pp_0 (svV sa_0 so_0) p1_0 p1no_0 p1pa_0 1 p3_0 x_1 (p1no_2, p1pa_3, p3_4, r_5) hg) E sw_239 rfl dL_law_1680 rfl (posOf [1, 2, 2, 3, 12, 12, 1, 3, 2, 13, 1] [0, 4, 8, 10]) hW hA hl rfl (law_mapG (ln := [1, 2, 2, 3, 12, 12, 1, 3, 2, 13, 1]) (is := [0, 4, 8, 10]) (cs := [wMCo k a_p1 (a_p1in 0) (a_p1ou 0) (a_p1ru 0) (a_p1no 0) (a_p1fo 0) (a_p1rd 0) (a_p1pa 0) (svV sa_0 so_0) p1_0, wCourt k a_p1no p1no_0, wPast k a_p1pa pp_0 p1pa_0, wJArr k a_p3 1 p3_0]) (fl4 _ _ _ _) rfl (by decide) rfl) ⟨Nat.le_of_ble_eq_true rfl, Nat.le_of_ble_eq_true rfl⟩ ⟨by show _ ≤ 601024; omega, by show _ ≤ 7293034; omega⟩ (Nat.le_of_ble_eq_true rfl) rfl (fun _ => rfl) (fun u => law_putG (ln := [1, 2, 2, 3, 12, 12, 1, 3, 2, 13, 1]) (is := [0, 4, 8, 10]) (cs0 := [wMCo k a_p1 (a_p1in 0) (a_p1ou 0) (a_p1ru 0) (a_p1no 0) (a_p1fo 0) (a_p1rd 0) (a_p1pa 0) (svV sa_0 so_0) p1_0, wCourt k a_p1no p1no_0, wPast k a_p1pa pp_0 p1pa_0, wJArr k a_p3 1 p3_0]) (cs := [wMCo k a_p1 (a_p1in 0) (a_p1ou 0) (a_p1ru 0) (a_p1no 0) (a_p1fo 0) (a_p1rd 0) (a_p1pa 0) (svV sa_0 so_0) p1_0, wCourt k a_p1no (u.1), wPast k a_p1pa (u.2.2.2) (u.2.1), wJArr k a_p3 1 (u.2.2.1)]) (fl4 _ _ _ _) rfl (by decide) rfl rfl) (fun r u H locs hp hW => ?_)
  obtain ⟨u0, u1, u2, pp_6⟩ := u
  try dsimp only at hp
  cases hp
  have hW : WD k A s.heap ((List.flatten [wMCo k a_p1 (a_p1in 0) (a_p1ou 0) (a_p1ru 0) (a_p1no 0) (a_p1fo 0) (a_p1rd 0) (a_p1pa 0) (svV sa_0 so_0) p1_0, wBytes k a_p1in 600 p1in_0, wBytes k a_p1ou 1024 p1ou_0, wRules k a_p1ru p1ru_0, wCourt k a_p1no p1no_2, wCourt k a_p1fo p1fo_0, wReader k a_p1rd (a_p1in 0) (a_p1fo 0) (a_p1rr 0) p1rd_0, wRules k a_p1rr p1rr_0, wPast k a_p1pa pp_6 p1pa_3, wModel k a_p2 p2_0, wJArr k a_p3 1 p3_4] ++ savW k sa_0 so_0) ++ poolW k pp_6 p1pa_3.2) H locs := hW
  refine k_istore (lv' := [(5, .int r_5), (0, .ref b), (1, .ref (a_p1 0)), (2, .ref (a_p2 0)), (3, .ref (a_p3 0)), (4, .int v4)]) E rfl hl dL_law_1683 (by decide) rfl (fun ls hl => ?_)
  refine k_aload_n E hl 3 dL_law_1685 rfl ?_
  refine k_aload_n E hl 1 dL_law_1686 rfl ?_
  refine k_iload E hl 5 dL_law_1687 rfl ?_
  refine lv_iconst (v := (1 : Int32)) E.hx E.hb dL_law_1689 ic_1 ?_
  refine lv_iadd E.hx E.hb dL_law_1690 ?_
  obtain ⟨hin, hf⟩ := oI hf
  obtain ⟨x_7, ex_7, hf⟩ := oL hf
  refine va_sld E.hx E.hb hX hbl hbA hW.2.2 hin dL_law_1691 ?_
  refine k_topi ex_7 ?_
  obtain ⟨p2_8, r_9, hg, hf⟩ := ob2 hf
  refine k_callVi (As := [.int x_7]) (rest := []) (ws2 := fun u => (List.flatten [wMCo k a_p1 (a_p1in 0) (a_p1ou 0) (a_p1ru 0) (a_p1no 0) (a_p1fo 0) (a_p1rd 0) (a_p1pa 0) (svV sa_0 so_0) p1_0, wBytes k a_p1in 600 p1in_0, wBytes k a_p1ou 1024 p1ou_0, wRules k a_p1ru p1ru_0, wCourt k a_p1no p1no_2, wCourt k a_p1fo p1fo_0, wReader k a_p1rd (a_p1in 0) (a_p1fo 0) (a_p1rr 0) p1rd_0, wRules k a_p1rr p1rr_0, wPast k a_p1pa pp_6 p1pa_3, wModel k a_p2 (u), wJArr k a_p3 1 p3_4] ++ savW k sa_0 so_0) ++ poolW k pp_6 p1pa_3.2) (c_X9_setOrder n l k a_p2 p2_0 x_7 (p2_8, r_9) hg) E vl_L_241 dL_law_1692 rfl (posOf [1, 2, 2, 3, 12, 12, 1, 3, 2, 13, 1] [9]) 7 38 hW hA hl rfl (law_map (ln := [1, 2, 2, 3, 12, 12, 1, 3, 2, 13, 1]) (is := [9]) (cs := [wModel k a_p2 p2_0]) (fl1 _) rfl (by decide) rfl) rfl rfl ⟨Nat.le_of_ble_eq_true rfl, Nat.le_of_ble_eq_true rfl⟩ ⟨by show _ ≤ 601024; omega, by show _ ≤ 7293034; omega⟩ (Nat.le_of_ble_eq_true rfl) rfl (fun _ => rfl) (fun u => law_put (ln := [1, 2, 2, 3, 12, 12, 1, 3, 2, 13, 1]) (is := [9]) (cs0 := [wModel k a_p2 p2_0]) (cs := [wModel k a_p2 (u)]) (fl1 _) rfl (by decide) rfl rfl) (fun r u H locs hp hW => ?_)
  cases hp
  have hW : WD k A s.heap ((List.flatten [wMCo k a_p1 (a_p1in 0) (a_p1ou 0) (a_p1ru 0) (a_p1no 0) (a_p1fo 0) (a_p1rd 0) (a_p1pa 0) (svV sa_0 so_0) p1_0, wBytes k a_p1in 600 p1in_0, wBytes k a_p1ou 1024 p1ou_0, wRules k a_p1ru p1ru_0, wCourt k a_p1no p1no_2, wCourt k a_p1fo p1fo_0, wReader k a_p1rd (a_p1in 0) (a_p1fo 0) (a_p1rr 0) p1rd_0, wRules k a_p1rr p1rr_0, wPast k a_p1pa pp_6 p1pa_3, wModel k a_p2 p2_8, wJArr k a_p3 1 p3_4] ++ savW k sa_0 so_0) ++ poolW k pp_6 p1pa_3.2) H locs := hW
  refine k_istore (lv' := [(6, .int r_9), (5, .int r_5), (0, .ref b), (1, .ref (a_p1 0)), (2, .ref (a_p2 0)), (3, .ref (a_p3 0)), (4, .int v4)]) E rfl hl dL_law_1695 (by decide) rfl (fun ls hl => ?_)
  refine k_aload_n E hl 4 dL_law_1697 rfl ?_
  obtain ⟨r_10, hg, hf⟩ := ob hf
  refine k_callVi (As := []) (rest := []) (ws2 := fun u => (List.flatten [wMCo k a_p1 (a_p1in 0) (a_p1ou 0) (a_p1ru 0) (a_p1no 0) (a_p1fo 0) (a_p1rd 0) (a_p1pa 0) (svV sa_0 so_0) p1_0, wBytes k a_p1in 600 p1in_0, wBytes k a_p1ou 1024 p1ou_0, wRules k a_p1ru p1ru_0, wCourt k a_p1no p1no_2, wCourt k a_p1fo p1fo_0, wReader k a_p1rd (a_p1in 0) (a_p1fo 0) (a_p1rr 0) p1rd_0, wRules k a_p1rr p1rr_0, wPast k a_p1pa pp_6 p1pa_3, wModel k a_p2 p2_8, wJArr k a_p3 1 p3_4] ++ savW k sa_0 so_0) ++ poolW k pp_6 p1pa_3.2) (c_X9_thrown n l k a_p2 p2_8 r_10 hg) E vl_L_152 dL_law_1698 rfl (posOf [1, 2, 2, 3, 12, 12, 1, 3, 2, 13, 1] [9]) 7 38 hW hA hl rfl (law_map (ln := [1, 2, 2, 3, 12, 12, 1, 3, 2, 13, 1]) (is := [9]) (cs := [wModel k a_p2 p2_8]) (fl1 _) rfl (by decide) rfl) rfl rfl ⟨Nat.le_of_ble_eq_true rfl, Nat.le_of_ble_eq_true rfl⟩ ⟨by show _ ≤ 601024; omega, by show _ ≤ 7293034; omega⟩ (Nat.le_of_ble_eq_true rfl) rfl (fun _ => rfl) (fun u => law_put (ln := [1, 2, 2, 3, 12, 12, 1, 3, 2, 13, 1]) (is := [9]) (cs0 := [wModel k a_p2 p2_8]) (cs := [wModel k a_p2 p2_8]) (fl1 _) rfl (by decide) rfl rfl) (fun r u H locs hp hW => ?_)
  cases hp
  have hW : WD k A s.heap ((List.flatten [wMCo k a_p1 (a_p1in 0) (a_p1ou 0) (a_p1ru 0) (a_p1no 0) (a_p1fo 0) (a_p1rd 0) (a_p1pa 0) (svV sa_0 so_0) p1_0, wBytes k a_p1in 600 p1in_0, wBytes k a_p1ou 1024 p1ou_0, wRules k a_p1ru p1ru_0, wCourt k a_p1no p1no_2, wCourt k a_p1fo p1fo_0, wReader k a_p1rd (a_p1in 0) (a_p1fo 0) (a_p1rr 0) p1rd_0, wRules k a_p1rr p1rr_0, wPast k a_p1pa pp_6 p1pa_3, wModel k a_p2 p2_8, wJArr k a_p3 1 p3_4] ++ savW k sa_0 so_0) ++ poolW k pp_6 p1pa_3.2) H locs := hW
  refine k_iload E hl 1 dL_law_1701 rfl ?_
  refine lv_icmp_eq (tgt := 1708) E.hx E.hb dL_law_1703 (by decide) (fun hc => ?_) (fun hc => ?_)
  · have hf := oT hc hf
    refine k_iload E hl 1 dL_law_1708 rfl ?_
    refine lv_if_ne (tgt := 1725) E.hx E.hb dL_law_1710 (by decide) (fun hc => ?_) (fun hc => ?_)
    · have hf := oF hc hf
      refine lv_goto (tgt := 2474) E.hx E.hb dL_law_1725 (by decide) ?_
      exact hgo pp_6 sa_0 _ _ _ _ _ (by omega) (by omega) (by cases hf; exact hW) (lv_sub hl [2, 3, 4, 5, 6] rfl)
    · have hf := oT hc hf
      refine k_aload_n E hl 5 dL_law_1713 rfl ?_
      refine lv_iconst (v := (0 : Int32)) E.hx E.hb dL_law_1714 ic_0 ?_
      obtain ⟨hin, hf⟩ := oI hf
      obtain ⟨x_11, ex_11, hf⟩ := oL hf
      refine k_lald E hW 51 rfl hin dL_law_1715 ?_
      refine k_topl ex_11 ?_
      refine k_iload E hl 0 dL_law_1716 rfl ?_
      refine lv_i2l (v := (r_9).toInt64) E.hx E.hb dL_law_1718 rfl ?_
      refine W.lcmp E.hx E.hb dL_law_1719 ?_
      refine lv_if_eq (tgt := 1725) E.hx E.hb dL_law_1720 (by decide) (fun hc => ?_) (fun hc => ?_)
      · have hf := oT hc hf
        refine lv_goto (tgt := 2474) E.hx E.hb dL_law_1725 (by decide) ?_
        exact hgo pp_6 sa_0 _ _ _ _ _ (by omega) (by omega) (by cases hf; exact hW) (lv_sub hl [2, 3, 4, 5, 6] rfl)
      · have hf := oF hc hf
        refine lv_iconst (v := (0 : Int32)) E.hx E.hb dL_law_1723 ic_0 ?_
        exact o0 hf
  · have hf := oF hc hf
    refine lv_iconst (v := (0 : Int32)) E.hx E.hb dL_law_1706 ic_0 ?_
    exact o0 hf
def f_law_33 (n : Nat) (L : Nat) (xs : Nat → Int32) (v4 : Int32) (sv_0 : Value) (p1_0 : OS) (p1in_0 : OS) (p1ou_0 : OS) (p1ru_0 : OS) (p1no_0 : OS) (p1fo_0 : OS) (p1rd_0 : OS) (p1rr_0 : OS) (p1pa_0 : PS) (p2_0 : OS) (p3_0 : Nat → Int64) (so_0 : Option OS) : Option LST :=
  bnd4 (f_L_undo n sv_0 p1_0 p1no_0 p1pa_0 1 p3_0) (fun (p1no_1 : OS) (p1pa_2 : PS) (p3_3 : Nat → Int64) (r_4 : Int32) =>
  bnd2 (f_X9_undo n p2_0) (fun (p2_6 : OS) (r_7 : Int32) =>
  bnd (f_X9_thrown n p2_6) (fun (r_8 : Int32) =>
  if r_8 = r_4 then (
  if r_4 = 0 then (
  gI 1 (0 : Int32) (Let (p3_3 (0 : Int32).toNatClampNeg) (fun x_9 : Int64 =>
  if (lg_cmp x_9 ((r_7).toInt64)) = 0 then (
  some (p1_0, p1in_0, p1ou_0, p1ru_0, p1no_1, p1fo_0, p1rd_0, p1rr_0, p1pa_2, p2_6, p3_3, so_0)) else (
  none)))) else (
  some (p1_0, p1in_0, p1ou_0, p1ru_0, p1no_1, p1fo_0, p1rd_0, p1rr_0, p1pa_2, p2_6, p3_3, so_0))) else (
  none))))
set_option maxHeartbeats 4000000 in
set_option maxRecDepth 100000 in
theorem c_law_33 {p : Program} {l : Launch} {e : Env} {s : State} {m : MethodId} {below : List Frame} {meth : Method} {c : Code} {A : Nat → Prop} {Q : State → Prop} {b L : Nat} {xs : Nat → Int32} {k : KT} (n : Nat) (hE : EH k) (hx : XH l k) (hN : CCH k) (E : E0 p s m c cL_law 9 RL k A) (hX : va_X b L xs s s.heap) (hbl : b < s.heap.size) (hbA : ¬ A b) (hA : ∀ q : Nat, s.heap.size ≤ q → A q) (a_p1 : Nat → Nat) (a_p1in : Nat → Nat) (a_p1ou : Nat → Nat) (a_p1ru : Nat → Nat) (a_p1no : Nat → Nat) (a_p1fo : Nat → Nat) (a_p1rd : Nat → Nat) (a_p1rr : Nat → Nat) (a_p1pa : Nat → Nat) (a_p2 : Nat → Nat) (a_p3 : Nat → Nat) (pp_0 : Nat → Nat → Nat) (sa_0 : Nat → Nat) (v4 : Int32) (p1_0 : OS) (p1in_0 : OS) (p1ou_0 : OS) (p1ru_0 : OS) (p1no_0 : OS) (p1fo_0 : OS) (p1rd_0 : OS) (p1rr_0 : OS) (p1pa_0 : PS) (p2_0 : OS) (p3_0 : Nat → Int64) (so_0 : Option OS) (res : LST) (hf : f_law_33 n L xs v4 (svV sa_0 so_0) p1_0 p1in_0 p1ou_0 p1ru_0 p1no_0 p1fo_0 p1rd_0 p1rr_0 p1pa_0 p2_0 p3_0 so_0 = some res)
    (H : Heap) (locs : List Loc) (ls : Array Slot) (c0 s0 : Nat) (hc0 : c0 + 40 ≤ 601024) (hs0 : s0 + 8000 ≤ 7293034) (hW : WD k A s.heap ((List.flatten [wMCo k a_p1 (a_p1in 0) (a_p1ou 0) (a_p1ru 0) (a_p1no 0) (a_p1fo 0) (a_p1rd 0) (a_p1pa 0) (svV sa_0 so_0) p1_0, wBytes k a_p1in 600 p1in_0, wBytes k a_p1ou 1024 p1ou_0, wRules k a_p1ru p1ru_0, wCourt k a_p1no p1no_0, wCourt k a_p1fo p1fo_0, wReader k a_p1rd (a_p1in 0) (a_p1fo 0) (a_p1rr 0) p1rd_0, wRules k a_p1rr p1rr_0, wPast k a_p1pa pp_0 p1pa_0, wModel k a_p2 p2_0, wJArr k a_p3 1 p3_0] ++ savW k sa_0 so_0) ++ poolW k pp_0 p1pa_0.2) H locs) (hl : lv_has ls 9 [(0, .ref b), (1, .ref (a_p1 0)), (2, .ref (a_p2 0)), (3, .ref (a_p3 0)), (4, .int v4)])
    (hgo : ∀ (pp : Nat → Nat → Nat) (sa : Nat → Nat) (H : Heap) (locs : List Loc) (ls : Array Slot) (cells slots : Nat), cells ≤ c0 + 40 → slots ≤ s0 + 8000 → WD k A s.heap ((List.flatten [wMCo k a_p1 (a_p1in 0) (a_p1ou 0) (a_p1ru 0) (a_p1no 0) (a_p1fo 0) (a_p1rd 0) (a_p1pa 0) (svV sa (res.2.2.2.2.2.2.2.2.2.2.2)) (res.1), wBytes k a_p1in 600 (res.2.1), wBytes k a_p1ou 1024 (res.2.2.1), wRules k a_p1ru (res.2.2.2.1), wCourt k a_p1no (res.2.2.2.2.1), wCourt k a_p1fo (res.2.2.2.2.2.1), wReader k a_p1rd (a_p1in 0) (a_p1fo 0) (a_p1rr 0) (res.2.2.2.2.2.2.1), wRules k a_p1rr (res.2.2.2.2.2.2.2.1), wPast k a_p1pa pp (res.2.2.2.2.2.2.2.2.1), wModel k a_p2 (res.2.2.2.2.2.2.2.2.2.1), wJArr k a_p3 1 (res.2.2.2.2.2.2.2.2.2.2.1)] ++ savW k sa (res.2.2.2.2.2.2.2.2.2.2.2)) ++ poolW k pp (res.2.2.2.2.2.2.2.2.1).2) H locs → lv_has ls 9 [(0, .ref b), (1, .ref (a_p1 0)), (2, .ref (a_p2 0)), (3, .ref (a_p3 0)), (4, .int v4)] → W p l e room_1 s m #[Value.ref b] below meth c H locs cells slots Q (F0 m 2474 ls [])) :
    W p l e room_1 s m #[Value.ref b] below meth c H locs c0 s0 Q (F0 m 1728 ls []) := by
  unfold f_law_33 at hf
  refine k_aload_n E hl 1 dL_law_1728 rfl ?_
  refine k_aload_n E hl 3 dL_law_1729 rfl ?_
  obtain ⟨p1no_1, p1pa_2, p3_3, r_4, hg, hf⟩ := ob4 hf
  refine k_callSXGi (As := [.ref (a_p1 0), .ref (a_p3 0)]) (rest := []) (ws2 := fun u => (List.flatten [wMCo k a_p1 (a_p1in 0) (a_p1ou 0) (a_p1ru 0) (a_p1no 0) (a_p1fo 0) (a_p1rd 0) (a_p1pa 0) (svV sa_0 so_0) p1_0, wBytes k a_p1in 600 p1in_0, wBytes k a_p1ou 1024 p1ou_0, wRules k a_p1ru p1ru_0, wCourt k a_p1no (u.1), wCourt k a_p1fo p1fo_0, wReader k a_p1rd (a_p1in 0) (a_p1fo 0) (a_p1rr 0) p1rd_0, wRules k a_p1rr p1rr_0, wPast k a_p1pa (u.2.2.2) (u.2.1), wModel k a_p2 p2_0, wJArr k a_p3 1 (u.2.2.1)] ++ savW k sa_0 so_0) ++ poolW k (u.2.2.2) (u.2.1).2) (c_L_undo n l k hN hx a_p1 a_p1in a_p1ou a_p1ru a_p1no a_p1fo a_p1rd a_p1pa a_p3 pp_0 (svV sa_0 so_0) p1_0 p1no_0 p1pa_0 1 p3_0 (p1no_1, p1pa_2, p3_3, r_4) hg) E sw_242 rfl dL_law_1730 rfl (posOf [1, 2, 2, 3, 12, 12, 1, 3, 2, 13, 1] [0, 4, 8, 10]) hW hA hl rfl (law_mapG (ln := [1, 2, 2, 3, 12, 12, 1, 3, 2, 13, 1]) (is := [0, 4, 8, 10]) (cs := [wMCo k a_p1 (a_p1in 0) (a_p1ou 0) (a_p1ru 0) (a_p1no 0) (a_p1fo 0) (a_p1rd 0) (a_p1pa 0) (svV sa_0 so_0) p1_0, wCourt k a_p1no p1no_0, wPast k a_p1pa pp_0 p1pa_0, wJArr k a_p3 1 p3_0]) (fl4 _ _ _ _) rfl (by decide) rfl) ⟨Nat.le_of_ble_eq_true rfl, Nat.le_of_ble_eq_true rfl⟩ ⟨by show _ ≤ 601024; omega, by show _ ≤ 7293034; omega⟩ (Nat.le_of_ble_eq_true rfl) rfl (fun _ => rfl) (fun u => law_putG (ln := [1, 2, 2, 3, 12, 12, 1, 3, 2, 13, 1]) (is := [0, 4, 8, 10]) (cs0 := [wMCo k a_p1 (a_p1in 0) (a_p1ou 0) (a_p1ru 0) (a_p1no 0) (a_p1fo 0) (a_p1rd 0) (a_p1pa 0) (svV sa_0 so_0) p1_0, wCourt k a_p1no p1no_0, wPast k a_p1pa pp_0 p1pa_0, wJArr k a_p3 1 p3_0]) (cs := [wMCo k a_p1 (a_p1in 0) (a_p1ou 0) (a_p1ru 0) (a_p1no 0) (a_p1fo 0) (a_p1rd 0) (a_p1pa 0) (svV sa_0 so_0) p1_0, wCourt k a_p1no (u.1), wPast k a_p1pa (u.2.2.2) (u.2.1), wJArr k a_p3 1 (u.2.2.1)]) (fl4 _ _ _ _) rfl (by decide) rfl rfl) (fun r u H locs hp hW => ?_)
  obtain ⟨u0, u1, u2, pp_5⟩ := u
  try dsimp only at hp
  cases hp
  have hW : WD k A s.heap ((List.flatten [wMCo k a_p1 (a_p1in 0) (a_p1ou 0) (a_p1ru 0) (a_p1no 0) (a_p1fo 0) (a_p1rd 0) (a_p1pa 0) (svV sa_0 so_0) p1_0, wBytes k a_p1in 600 p1in_0, wBytes k a_p1ou 1024 p1ou_0, wRules k a_p1ru p1ru_0, wCourt k a_p1no p1no_1, wCourt k a_p1fo p1fo_0, wReader k a_p1rd (a_p1in 0) (a_p1fo 0) (a_p1rr 0) p1rd_0, wRules k a_p1rr p1rr_0, wPast k a_p1pa pp_5 p1pa_2, wModel k a_p2 p2_0, wJArr k a_p3 1 p3_3] ++ savW k sa_0 so_0) ++ poolW k pp_5 p1pa_2.2) H locs := hW
  refine k_istore (lv' := [(5, .int r_4), (0, .ref b), (1, .ref (a_p1 0)), (2, .ref (a_p2 0)), (3, .ref (a_p3 0)), (4, .int v4)]) E rfl hl dL_law_1733 (by decide) rfl (fun ls hl => ?_)
  refine k_aload_n E hl 3 dL_law_1735 rfl ?_
  obtain ⟨p2_6, r_7, hg, hf⟩ := ob2 hf
  refine k_callVi (As := []) (rest := []) (ws2 := fun u => (List.flatten [wMCo k a_p1 (a_p1in 0) (a_p1ou 0) (a_p1ru 0) (a_p1no 0) (a_p1fo 0) (a_p1rd 0) (a_p1pa 0) (svV sa_0 so_0) p1_0, wBytes k a_p1in 600 p1in_0, wBytes k a_p1ou 1024 p1ou_0, wRules k a_p1ru p1ru_0, wCourt k a_p1no p1no_1, wCourt k a_p1fo p1fo_0, wReader k a_p1rd (a_p1in 0) (a_p1fo 0) (a_p1rr 0) p1rd_0, wRules k a_p1rr p1rr_0, wPast k a_p1pa pp_5 p1pa_2, wModel k a_p2 (u), wJArr k a_p3 1 p3_3] ++ savW k sa_0 so_0) ++ poolW k pp_5 p1pa_2.2) (c_X9_undo n l k a_p2 p2_0 (p2_6, r_7) hg) E vl_L_245 dL_law_1736 rfl (posOf [1, 2, 2, 3, 12, 12, 1, 3, 2, 13, 1] [9]) 7 38 hW hA hl rfl (law_map (ln := [1, 2, 2, 3, 12, 12, 1, 3, 2, 13, 1]) (is := [9]) (cs := [wModel k a_p2 p2_0]) (fl1 _) rfl (by decide) rfl) rfl rfl ⟨Nat.le_of_ble_eq_true rfl, Nat.le_of_ble_eq_true rfl⟩ ⟨by show _ ≤ 601024; omega, by show _ ≤ 7293034; omega⟩ (Nat.le_of_ble_eq_true rfl) rfl (fun _ => rfl) (fun u => law_put (ln := [1, 2, 2, 3, 12, 12, 1, 3, 2, 13, 1]) (is := [9]) (cs0 := [wModel k a_p2 p2_0]) (cs := [wModel k a_p2 (u)]) (fl1 _) rfl (by decide) rfl rfl) (fun r u H locs hp hW => ?_)
  cases hp
  have hW : WD k A s.heap ((List.flatten [wMCo k a_p1 (a_p1in 0) (a_p1ou 0) (a_p1ru 0) (a_p1no 0) (a_p1fo 0) (a_p1rd 0) (a_p1pa 0) (svV sa_0 so_0) p1_0, wBytes k a_p1in 600 p1in_0, wBytes k a_p1ou 1024 p1ou_0, wRules k a_p1ru p1ru_0, wCourt k a_p1no p1no_1, wCourt k a_p1fo p1fo_0, wReader k a_p1rd (a_p1in 0) (a_p1fo 0) (a_p1rr 0) p1rd_0, wRules k a_p1rr p1rr_0, wPast k a_p1pa pp_5 p1pa_2, wModel k a_p2 p2_6, wJArr k a_p3 1 p3_3] ++ savW k sa_0 so_0) ++ poolW k pp_5 p1pa_2.2) H locs := hW
  refine k_istore (lv' := [(6, .int r_7), (5, .int r_4), (0, .ref b), (1, .ref (a_p1 0)), (2, .ref (a_p2 0)), (3, .ref (a_p3 0)), (4, .int v4)]) E rfl hl dL_law_1739 (by decide) rfl (fun ls hl => ?_)
  refine k_aload_n E hl 4 dL_law_1741 rfl ?_
  obtain ⟨r_8, hg, hf⟩ := ob hf
  refine k_callVi (As := []) (rest := []) (ws2 := fun u => (List.flatten [wMCo k a_p1 (a_p1in 0) (a_p1ou 0) (a_p1ru 0) (a_p1no 0) (a_p1fo 0) (a_p1rd 0) (a_p1pa 0) (svV sa_0 so_0) p1_0, wBytes k a_p1in 600 p1in_0, wBytes k a_p1ou 1024 p1ou_0, wRules k a_p1ru p1ru_0, wCourt k a_p1no p1no_1, wCourt k a_p1fo p1fo_0, wReader k a_p1rd (a_p1in 0) (a_p1fo 0) (a_p1rr 0) p1rd_0, wRules k a_p1rr p1rr_0, wPast k a_p1pa pp_5 p1pa_2, wModel k a_p2 p2_6, wJArr k a_p3 1 p3_3] ++ savW k sa_0 so_0) ++ poolW k pp_5 p1pa_2.2) (c_X9_thrown n l k a_p2 p2_6 r_8 hg) E vl_L_152 dL_law_1742 rfl (posOf [1, 2, 2, 3, 12, 12, 1, 3, 2, 13, 1] [9]) 7 38 hW hA hl rfl (law_map (ln := [1, 2, 2, 3, 12, 12, 1, 3, 2, 13, 1]) (is := [9]) (cs := [wModel k a_p2 p2_6]) (fl1 _) rfl (by decide) rfl) rfl rfl ⟨Nat.le_of_ble_eq_true rfl, Nat.le_of_ble_eq_true rfl⟩ ⟨by show _ ≤ 601024; omega, by show _ ≤ 7293034; omega⟩ (Nat.le_of_ble_eq_true rfl) rfl (fun _ => rfl) (fun u => law_put (ln := [1, 2, 2, 3, 12, 12, 1, 3, 2, 13, 1]) (is := [9]) (cs0 := [wModel k a_p2 p2_6]) (cs := [wModel k a_p2 p2_6]) (fl1 _) rfl (by decide) rfl rfl) (fun r u H locs hp hW => ?_)
  cases hp
  have hW : WD k A s.heap ((List.flatten [wMCo k a_p1 (a_p1in 0) (a_p1ou 0) (a_p1ru 0) (a_p1no 0) (a_p1fo 0) (a_p1rd 0) (a_p1pa 0) (svV sa_0 so_0) p1_0, wBytes k a_p1in 600 p1in_0, wBytes k a_p1ou 1024 p1ou_0, wRules k a_p1ru p1ru_0, wCourt k a_p1no p1no_1, wCourt k a_p1fo p1fo_0, wReader k a_p1rd (a_p1in 0) (a_p1fo 0) (a_p1rr 0) p1rd_0, wRules k a_p1rr p1rr_0, wPast k a_p1pa pp_5 p1pa_2, wModel k a_p2 p2_6, wJArr k a_p3 1 p3_3] ++ savW k sa_0 so_0) ++ poolW k pp_5 p1pa_2.2) H locs := hW
  refine k_iload E hl 1 dL_law_1745 rfl ?_
  refine lv_icmp_eq (tgt := 1752) E.hx E.hb dL_law_1747 (by decide) (fun hc => ?_) (fun hc => ?_)
  · have hf := oT hc hf
    refine k_iload E hl 1 dL_law_1752 rfl ?_
    refine lv_if_ne (tgt := 1769) E.hx E.hb dL_law_1754 (by decide) (fun hc => ?_) (fun hc => ?_)
    · have hf := oF hc hf
      refine lv_goto (tgt := 2474) E.hx E.hb dL_law_1769 (by decide) ?_
      exact hgo pp_5 sa_0 _ _ _ _ _ (by omega) (by omega) (by cases hf; exact hW) (lv_sub hl [2, 3, 4, 5, 6] rfl)
    · have hf := oT hc hf
      refine k_aload_n E hl 5 dL_law_1757 rfl ?_
      refine lv_iconst (v := (0 : Int32)) E.hx E.hb dL_law_1758 ic_0 ?_
      obtain ⟨hin, hf⟩ := oI hf
      obtain ⟨x_9, ex_9, hf⟩ := oL hf
      refine k_lald E hW 51 rfl hin dL_law_1759 ?_
      refine k_topl ex_9 ?_
      refine k_iload E hl 0 dL_law_1760 rfl ?_
      refine lv_i2l (v := (r_7).toInt64) E.hx E.hb dL_law_1762 rfl ?_
      refine W.lcmp E.hx E.hb dL_law_1763 ?_
      refine lv_if_eq (tgt := 1769) E.hx E.hb dL_law_1764 (by decide) (fun hc => ?_) (fun hc => ?_)
      · have hf := oT hc hf
        refine lv_goto (tgt := 2474) E.hx E.hb dL_law_1769 (by decide) ?_
        exact hgo pp_5 sa_0 _ _ _ _ _ (by omega) (by omega) (by cases hf; exact hW) (lv_sub hl [2, 3, 4, 5, 6] rfl)
      · have hf := oF hc hf
        refine lv_iconst (v := (0 : Int32)) E.hx E.hb dL_law_1767 ic_0 ?_
        exact o0 hf
  · have hf := oF hc hf
    refine lv_iconst (v := (0 : Int32)) E.hx E.hb dL_law_1750 ic_0 ?_
    exact o0 hf
def f_law_34 (n : Nat) (L : Nat) (xs : Nat → Int32) (v4 : Int32) (sv_0 : Value) (p1_0 : OS) (p1in_0 : OS) (p1ou_0 : OS) (p1ru_0 : OS) (p1no_0 : OS) (p1fo_0 : OS) (p1rd_0 : OS) (p1rr_0 : OS) (p1pa_0 : PS) (p2_0 : OS) (p3_0 : Nat → Int64) (so_0 : Option OS) : Option LST :=
  gI L (v4 + (1 : Int32)) (Let (xs (v4 + (1 : Int32)).toNatClampNeg) (fun x_1 : Int32 =>
  gI L (v4 + (2 : Int32)) (Let (xs (v4 + (2 : Int32)).toNatClampNeg) (fun x_2 : Int32 =>
  bnd3 (f_L_metIn n sv_0 p1_0 p1ru_0 p1no_0 p1fo_0 1 p3_0 x_1 x_2) (fun (p1fo_3 : OS) (p3_4 : Nat → Int64) (r_5 : Int32) =>
  gI L (v4 + (1 : Int32)) (Let (xs (v4 + (1 : Int32)).toNatClampNeg) (fun x_6 : Int32 =>
  gI L (v4 + (2 : Int32)) (Let (xs (v4 + (2 : Int32)).toNatClampNeg) (fun x_7 : Int32 =>
  bnd2 (f_X9_metIn n p2_0 x_6 x_7) (fun (p2_8 : OS) (r_9 : Int32) =>
  bnd (f_X9_thrown n p2_8) (fun (r_10 : Int32) =>
  if r_10 = r_5 then (
  if r_5 = 0 then (
  gI 1 (0 : Int32) (Let (p3_4 (0 : Int32).toNatClampNeg) (fun x_11 : Int64 =>
  if (lg_cmp x_11 ((r_9).toInt64)) = 0 then (
  some (p1_0, p1in_0, p1ou_0, p1ru_0, p1no_0, p1fo_3, p1rd_0, p1rr_0, p1pa_0, p2_8, p3_4, so_0)) else (
  none)))) else (
  some (p1_0, p1in_0, p1ou_0, p1ru_0, p1no_0, p1fo_3, p1rd_0, p1rr_0, p1pa_0, p2_8, p3_4, so_0))) else (
  none))))))))))))
set_option maxHeartbeats 4000000 in
set_option maxRecDepth 100000 in
theorem c_law_34 {p : Program} {l : Launch} {e : Env} {s : State} {m : MethodId} {below : List Frame} {meth : Method} {c : Code} {A : Nat → Prop} {Q : State → Prop} {b L : Nat} {xs : Nat → Int32} {k : KT} (n : Nat) (hE : EH k) (hx : XH l k) (hN : CCH k) (E : E0 p s m c cL_law 9 RL k A) (hX : va_X b L xs s s.heap) (hbl : b < s.heap.size) (hbA : ¬ A b) (hA : ∀ q : Nat, s.heap.size ≤ q → A q) (a_p1 : Nat → Nat) (a_p1in : Nat → Nat) (a_p1ou : Nat → Nat) (a_p1ru : Nat → Nat) (a_p1no : Nat → Nat) (a_p1fo : Nat → Nat) (a_p1rd : Nat → Nat) (a_p1rr : Nat → Nat) (a_p1pa : Nat → Nat) (a_p2 : Nat → Nat) (a_p3 : Nat → Nat) (pp_0 : Nat → Nat → Nat) (sa_0 : Nat → Nat) (v4 : Int32) (p1_0 : OS) (p1in_0 : OS) (p1ou_0 : OS) (p1ru_0 : OS) (p1no_0 : OS) (p1fo_0 : OS) (p1rd_0 : OS) (p1rr_0 : OS) (p1pa_0 : PS) (p2_0 : OS) (p3_0 : Nat → Int64) (so_0 : Option OS) (res : LST) (hf : f_law_34 n L xs v4 (svV sa_0 so_0) p1_0 p1in_0 p1ou_0 p1ru_0 p1no_0 p1fo_0 p1rd_0 p1rr_0 p1pa_0 p2_0 p3_0 so_0 = some res)
    (H : Heap) (locs : List Loc) (ls : Array Slot) (c0 s0 : Nat) (hc0 : c0 + 40 ≤ 601024) (hs0 : s0 + 8000 ≤ 7293034) (hW : WD k A s.heap ((List.flatten [wMCo k a_p1 (a_p1in 0) (a_p1ou 0) (a_p1ru 0) (a_p1no 0) (a_p1fo 0) (a_p1rd 0) (a_p1pa 0) (svV sa_0 so_0) p1_0, wBytes k a_p1in 600 p1in_0, wBytes k a_p1ou 1024 p1ou_0, wRules k a_p1ru p1ru_0, wCourt k a_p1no p1no_0, wCourt k a_p1fo p1fo_0, wReader k a_p1rd (a_p1in 0) (a_p1fo 0) (a_p1rr 0) p1rd_0, wRules k a_p1rr p1rr_0, wPast k a_p1pa pp_0 p1pa_0, wModel k a_p2 p2_0, wJArr k a_p3 1 p3_0] ++ savW k sa_0 so_0) ++ poolW k pp_0 p1pa_0.2) H locs) (hl : lv_has ls 9 [(0, .ref b), (1, .ref (a_p1 0)), (2, .ref (a_p2 0)), (3, .ref (a_p3 0)), (4, .int v4)])
    (hgo : ∀ (pp : Nat → Nat → Nat) (sa : Nat → Nat) (H : Heap) (locs : List Loc) (ls : Array Slot) (cells slots : Nat), cells ≤ c0 + 40 → slots ≤ s0 + 8000 → WD k A s.heap ((List.flatten [wMCo k a_p1 (a_p1in 0) (a_p1ou 0) (a_p1ru 0) (a_p1no 0) (a_p1fo 0) (a_p1rd 0) (a_p1pa 0) (svV sa (res.2.2.2.2.2.2.2.2.2.2.2)) (res.1), wBytes k a_p1in 600 (res.2.1), wBytes k a_p1ou 1024 (res.2.2.1), wRules k a_p1ru (res.2.2.2.1), wCourt k a_p1no (res.2.2.2.2.1), wCourt k a_p1fo (res.2.2.2.2.2.1), wReader k a_p1rd (a_p1in 0) (a_p1fo 0) (a_p1rr 0) (res.2.2.2.2.2.2.1), wRules k a_p1rr (res.2.2.2.2.2.2.2.1), wPast k a_p1pa pp (res.2.2.2.2.2.2.2.2.1), wModel k a_p2 (res.2.2.2.2.2.2.2.2.2.1), wJArr k a_p3 1 (res.2.2.2.2.2.2.2.2.2.2.1)] ++ savW k sa (res.2.2.2.2.2.2.2.2.2.2.2)) ++ poolW k pp (res.2.2.2.2.2.2.2.2.1).2) H locs → lv_has ls 9 [(0, .ref b), (1, .ref (a_p1 0)), (2, .ref (a_p2 0)), (3, .ref (a_p3 0)), (4, .int v4)] → W p l e room_1 s m #[Value.ref b] below meth c H locs cells slots Q (F0 m 2474 ls [])) :
    W p l e room_1 s m #[Value.ref b] below meth c H locs c0 s0 Q (F0 m 1772 ls []) := by
  unfold f_law_34 at hf
  refine k_aload_n E hl 1 dL_law_1772 rfl ?_
  refine k_aload_n E hl 0 dL_law_1773 rfl ?_
  refine k_iload E hl 4 dL_law_1774 rfl ?_
  refine lv_iconst (v := (1 : Int32)) E.hx E.hb dL_law_1776 ic_1 ?_
  refine lv_iadd E.hx E.hb dL_law_1777 ?_
  obtain ⟨hin, hf⟩ := oI hf
  obtain ⟨x_1, ex_1, hf⟩ := oL hf
  refine va_sld E.hx E.hb hX hbl hbA hW.2.2 hin dL_law_1778 ?_
  refine k_topi ex_1 ?_
  refine k_aload_n E hl 0 dL_law_1779 rfl ?_
  refine k_iload E hl 4 dL_law_1780 rfl ?_
  refine lv_iconst (v := (2 : Int32)) E.hx E.hb dL_law_1782 ic_2 ?_
  refine lv_iadd E.hx E.hb dL_law_1783 ?_
  obtain ⟨hin, hf⟩ := oI hf
  obtain ⟨x_2, ex_2, hf⟩ := oL hf
  refine va_sld E.hx E.hb hX hbl hbA hW.2.2 hin dL_law_1784 ?_
  refine k_topi ex_2 ?_
  refine k_aload_n E hl 3 dL_law_1785 rfl ?_
  obtain ⟨p1fo_3, p3_4, r_5, hg, hf⟩ := ob3 hf
  refine k_callSXi (As := [.ref (a_p1 0), .int x_1, .int x_2, .ref (a_p3 0)]) (rest := []) (ws2 := fun u => (List.flatten [wMCo k a_p1 (a_p1in 0) (a_p1ou 0) (a_p1ru 0) (a_p1no 0) (a_p1fo 0) (a_p1rd 0) (a_p1pa 0) (svV sa_0 so_0) p1_0, wBytes k a_p1in 600 p1in_0, wBytes k a_p1ou 1024 p1ou_0, wRules k a_p1ru p1ru_0, wCourt k a_p1no p1no_0, wCourt k a_p1fo (u.1), wReader k a_p1rd (a_p1in 0) (a_p1fo 0) (a_p1rr 0) p1rd_0, wRules k a_p1rr p1rr_0, wPast k a_p1pa pp_0 p1pa_0, wModel k a_p2 p2_0, wJArr k a_p3 1 (u.2)] ++ savW k sa_0 so_0) ++ poolW k pp_0 p1pa_0.2) (c_L_metIn n l k hN hx a_p1 a_p1in a_p1ou a_p1ru a_p1no a_p1fo a_p1rd a_p1pa a_p3 (svV sa_0 so_0) p1_0 p1ru_0 p1no_0 p1fo_0 1 p3_0 x_1 x_2 (p1fo_3, p3_4, r_5) hg) E sw_246 rfl dL_law_1786 rfl (posOf [1, 2, 2, 3, 12, 12, 1, 3, 2, 13, 1] [0, 3, 4, 5, 10]) hW hA hl rfl (law_map (ln := [1, 2, 2, 3, 12, 12, 1, 3, 2, 13, 1]) (is := [0, 3, 4, 5, 10]) (cs := [wMCo k a_p1 (a_p1in 0) (a_p1ou 0) (a_p1ru 0) (a_p1no 0) (a_p1fo 0) (a_p1rd 0) (a_p1pa 0) (svV sa_0 so_0) p1_0, wRules k a_p1ru p1ru_0, wCourt k a_p1no p1no_0, wCourt k a_p1fo p1fo_0, wJArr k a_p3 1 p3_0]) (fl5 _ _ _ _ _) rfl (by decide) rfl) ⟨Nat.le_of_ble_eq_true rfl, Nat.le_of_ble_eq_true rfl⟩ ⟨by show _ ≤ 601024; omega, by show _ ≤ 7293034; omega⟩ (Nat.le_of_ble_eq_true rfl) rfl (fun _ => rfl) (fun u => law_put (ln := [1, 2, 2, 3, 12, 12, 1, 3, 2, 13, 1]) (is := [0, 3, 4, 5, 10]) (cs0 := [wMCo k a_p1 (a_p1in 0) (a_p1ou 0) (a_p1ru 0) (a_p1no 0) (a_p1fo 0) (a_p1rd 0) (a_p1pa 0) (svV sa_0 so_0) p1_0, wRules k a_p1ru p1ru_0, wCourt k a_p1no p1no_0, wCourt k a_p1fo p1fo_0, wJArr k a_p3 1 p3_0]) (cs := [wMCo k a_p1 (a_p1in 0) (a_p1ou 0) (a_p1ru 0) (a_p1no 0) (a_p1fo 0) (a_p1rd 0) (a_p1pa 0) (svV sa_0 so_0) p1_0, wRules k a_p1ru p1ru_0, wCourt k a_p1no p1no_0, wCourt k a_p1fo (u.1), wJArr k a_p3 1 (u.2)]) (fl5 _ _ _ _ _) rfl (by decide) rfl rfl) (fun r u H locs hp hW => ?_)
  obtain ⟨u0, u1⟩ := u
  try dsimp only at hp
  cases hp
  have hW : WD k A s.heap ((List.flatten [wMCo k a_p1 (a_p1in 0) (a_p1ou 0) (a_p1ru 0) (a_p1no 0) (a_p1fo 0) (a_p1rd 0) (a_p1pa 0) (svV sa_0 so_0) p1_0, wBytes k a_p1in 600 p1in_0, wBytes k a_p1ou 1024 p1ou_0, wRules k a_p1ru p1ru_0, wCourt k a_p1no p1no_0, wCourt k a_p1fo p1fo_3, wReader k a_p1rd (a_p1in 0) (a_p1fo 0) (a_p1rr 0) p1rd_0, wRules k a_p1rr p1rr_0, wPast k a_p1pa pp_0 p1pa_0, wModel k a_p2 p2_0, wJArr k a_p3 1 p3_4] ++ savW k sa_0 so_0) ++ poolW k pp_0 p1pa_0.2) H locs := hW
  refine k_istore (lv' := [(5, .int r_5), (0, .ref b), (1, .ref (a_p1 0)), (2, .ref (a_p2 0)), (3, .ref (a_p3 0)), (4, .int v4)]) E rfl hl dL_law_1789 (by decide) rfl (fun ls hl => ?_)
  refine k_aload_n E hl 3 dL_law_1791 rfl ?_
  refine k_aload_n E hl 1 dL_law_1792 rfl ?_
  refine k_iload E hl 5 dL_law_1793 rfl ?_
  refine lv_iconst (v := (1 : Int32)) E.hx E.hb dL_law_1795 ic_1 ?_
  refine lv_iadd E.hx E.hb dL_law_1796 ?_
  obtain ⟨hin, hf⟩ := oI hf
  obtain ⟨x_6, ex_6, hf⟩ := oL hf
  refine va_sld E.hx E.hb hX hbl hbA hW.2.2 hin dL_law_1797 ?_
  refine k_topi ex_6 ?_
  refine k_aload_n E hl 1 dL_law_1798 rfl ?_
  refine k_iload E hl 5 dL_law_1799 rfl ?_
  refine lv_iconst (v := (2 : Int32)) E.hx E.hb dL_law_1801 ic_2 ?_
  refine lv_iadd E.hx E.hb dL_law_1802 ?_
  obtain ⟨hin, hf⟩ := oI hf
  obtain ⟨x_7, ex_7, hf⟩ := oL hf
  refine va_sld E.hx E.hb hX hbl hbA hW.2.2 hin dL_law_1803 ?_
  refine k_topi ex_7 ?_
  obtain ⟨p2_8, r_9, hg, hf⟩ := ob2 hf
  refine k_callVi (As := [.int x_6, .int x_7]) (rest := []) (ws2 := fun u => (List.flatten [wMCo k a_p1 (a_p1in 0) (a_p1ou 0) (a_p1ru 0) (a_p1no 0) (a_p1fo 0) (a_p1rd 0) (a_p1pa 0) (svV sa_0 so_0) p1_0, wBytes k a_p1in 600 p1in_0, wBytes k a_p1ou 1024 p1ou_0, wRules k a_p1ru p1ru_0, wCourt k a_p1no p1no_0, wCourt k a_p1fo p1fo_3, wReader k a_p1rd (a_p1in 0) (a_p1fo 0) (a_p1rr 0) p1rd_0, wRules k a_p1rr p1rr_0, wPast k a_p1pa pp_0 p1pa_0, wModel k a_p2 (u), wJArr k a_p3 1 p3_4] ++ savW k sa_0 so_0) ++ poolW k pp_0 p1pa_0.2) (c_X9_metIn n l k a_p2 p2_0 x_6 x_7 (p2_8, r_9) hg) E vl_L_248 dL_law_1804 rfl (posOf [1, 2, 2, 3, 12, 12, 1, 3, 2, 13, 1] [9]) 7 38 hW hA hl rfl (law_map (ln := [1, 2, 2, 3, 12, 12, 1, 3, 2, 13, 1]) (is := [9]) (cs := [wModel k a_p2 p2_0]) (fl1 _) rfl (by decide) rfl) rfl rfl ⟨Nat.le_of_ble_eq_true rfl, Nat.le_of_ble_eq_true rfl⟩ ⟨by show _ ≤ 601024; omega, by show _ ≤ 7293034; omega⟩ (Nat.le_of_ble_eq_true rfl) rfl (fun _ => rfl) (fun u => law_put (ln := [1, 2, 2, 3, 12, 12, 1, 3, 2, 13, 1]) (is := [9]) (cs0 := [wModel k a_p2 p2_0]) (cs := [wModel k a_p2 (u)]) (fl1 _) rfl (by decide) rfl rfl) (fun r u H locs hp hW => ?_)
  cases hp
  have hW : WD k A s.heap ((List.flatten [wMCo k a_p1 (a_p1in 0) (a_p1ou 0) (a_p1ru 0) (a_p1no 0) (a_p1fo 0) (a_p1rd 0) (a_p1pa 0) (svV sa_0 so_0) p1_0, wBytes k a_p1in 600 p1in_0, wBytes k a_p1ou 1024 p1ou_0, wRules k a_p1ru p1ru_0, wCourt k a_p1no p1no_0, wCourt k a_p1fo p1fo_3, wReader k a_p1rd (a_p1in 0) (a_p1fo 0) (a_p1rr 0) p1rd_0, wRules k a_p1rr p1rr_0, wPast k a_p1pa pp_0 p1pa_0, wModel k a_p2 p2_8, wJArr k a_p3 1 p3_4] ++ savW k sa_0 so_0) ++ poolW k pp_0 p1pa_0.2) H locs := hW
  refine k_istore (lv' := [(6, .int r_9), (5, .int r_5), (0, .ref b), (1, .ref (a_p1 0)), (2, .ref (a_p2 0)), (3, .ref (a_p3 0)), (4, .int v4)]) E rfl hl dL_law_1807 (by decide) rfl (fun ls hl => ?_)
  refine k_aload_n E hl 4 dL_law_1809 rfl ?_
  obtain ⟨r_10, hg, hf⟩ := ob hf
  refine k_callVi (As := []) (rest := []) (ws2 := fun u => (List.flatten [wMCo k a_p1 (a_p1in 0) (a_p1ou 0) (a_p1ru 0) (a_p1no 0) (a_p1fo 0) (a_p1rd 0) (a_p1pa 0) (svV sa_0 so_0) p1_0, wBytes k a_p1in 600 p1in_0, wBytes k a_p1ou 1024 p1ou_0, wRules k a_p1ru p1ru_0, wCourt k a_p1no p1no_0, wCourt k a_p1fo p1fo_3, wReader k a_p1rd (a_p1in 0) (a_p1fo 0) (a_p1rr 0) p1rd_0, wRules k a_p1rr p1rr_0, wPast k a_p1pa pp_0 p1pa_0, wModel k a_p2 p2_8, wJArr k a_p3 1 p3_4] ++ savW k sa_0 so_0) ++ poolW k pp_0 p1pa_0.2) (c_X9_thrown n l k a_p2 p2_8 r_10 hg) E vl_L_152 dL_law_1810 rfl (posOf [1, 2, 2, 3, 12, 12, 1, 3, 2, 13, 1] [9]) 7 38 hW hA hl rfl (law_map (ln := [1, 2, 2, 3, 12, 12, 1, 3, 2, 13, 1]) (is := [9]) (cs := [wModel k a_p2 p2_8]) (fl1 _) rfl (by decide) rfl) rfl rfl ⟨Nat.le_of_ble_eq_true rfl, Nat.le_of_ble_eq_true rfl⟩ ⟨by show _ ≤ 601024; omega, by show _ ≤ 7293034; omega⟩ (Nat.le_of_ble_eq_true rfl) rfl (fun _ => rfl) (fun u => law_put (ln := [1, 2, 2, 3, 12, 12, 1, 3, 2, 13, 1]) (is := [9]) (cs0 := [wModel k a_p2 p2_8]) (cs := [wModel k a_p2 p2_8]) (fl1 _) rfl (by decide) rfl rfl) (fun r u H locs hp hW => ?_)
  cases hp
  have hW : WD k A s.heap ((List.flatten [wMCo k a_p1 (a_p1in 0) (a_p1ou 0) (a_p1ru 0) (a_p1no 0) (a_p1fo 0) (a_p1rd 0) (a_p1pa 0) (svV sa_0 so_0) p1_0, wBytes k a_p1in 600 p1in_0, wBytes k a_p1ou 1024 p1ou_0, wRules k a_p1ru p1ru_0, wCourt k a_p1no p1no_0, wCourt k a_p1fo p1fo_3, wReader k a_p1rd (a_p1in 0) (a_p1fo 0) (a_p1rr 0) p1rd_0, wRules k a_p1rr p1rr_0, wPast k a_p1pa pp_0 p1pa_0, wModel k a_p2 p2_8, wJArr k a_p3 1 p3_4] ++ savW k sa_0 so_0) ++ poolW k pp_0 p1pa_0.2) H locs := hW
  refine k_iload E hl 1 dL_law_1813 rfl ?_
  refine lv_icmp_eq (tgt := 1820) E.hx E.hb dL_law_1815 (by decide) (fun hc => ?_) (fun hc => ?_)
  · have hf := oT hc hf
    refine k_iload E hl 1 dL_law_1820 rfl ?_
    refine lv_if_ne (tgt := 1837) E.hx E.hb dL_law_1822 (by decide) (fun hc => ?_) (fun hc => ?_)
    · have hf := oF hc hf
      refine lv_goto (tgt := 2474) E.hx E.hb dL_law_1837 (by decide) ?_
      exact hgo pp_0 sa_0 _ _ _ _ _ (by omega) (by omega) (by cases hf; exact hW) (lv_sub hl [2, 3, 4, 5, 6] rfl)
    · have hf := oT hc hf
      refine k_aload_n E hl 5 dL_law_1825 rfl ?_
      refine lv_iconst (v := (0 : Int32)) E.hx E.hb dL_law_1826 ic_0 ?_
      obtain ⟨hin, hf⟩ := oI hf
      obtain ⟨x_11, ex_11, hf⟩ := oL hf
      refine k_lald E hW 51 rfl hin dL_law_1827 ?_
      refine k_topl ex_11 ?_
      refine k_iload E hl 0 dL_law_1828 rfl ?_
      refine lv_i2l (v := (r_9).toInt64) E.hx E.hb dL_law_1830 rfl ?_
      refine W.lcmp E.hx E.hb dL_law_1831 ?_
      refine lv_if_eq (tgt := 1837) E.hx E.hb dL_law_1832 (by decide) (fun hc => ?_) (fun hc => ?_)
      · have hf := oT hc hf
        refine lv_goto (tgt := 2474) E.hx E.hb dL_law_1837 (by decide) ?_
        exact hgo pp_0 sa_0 _ _ _ _ _ (by omega) (by omega) (by cases hf; exact hW) (lv_sub hl [2, 3, 4, 5, 6] rfl)
      · have hf := oF hc hf
        refine lv_iconst (v := (0 : Int32)) E.hx E.hb dL_law_1835 ic_0 ?_
        exact o0 hf
  · have hf := oF hc hf
    refine lv_iconst (v := (0 : Int32)) E.hx E.hb dL_law_1818 ic_0 ?_
    exact o0 hf
def f_law_35 (n : Nat) (L : Nat) (xs : Nat → Int32) (v4 : Int32) (sv_0 : Value) (p1_0 : OS) (p1in_0 : OS) (p1ou_0 : OS) (p1ru_0 : OS) (p1no_0 : OS) (p1fo_0 : OS) (p1rd_0 : OS) (p1rr_0 : OS) (p1pa_0 : PS) (p2_0 : OS) (p3_0 : Nat → Int64) (so_0 : Option OS) : Option LST :=
  gI L (v4 + (1 : Int32)) (Let (xs (v4 + (1 : Int32)).toNatClampNeg) (fun x_1 : Int32 =>
  gI L (v4 + (2 : Int32)) (Let (xs (v4 + (2 : Int32)).toNatClampNeg) (fun x_2 : Int32 =>
  bnd3 (f_L_refusedIn n sv_0 p1_0 p1ru_0 p1no_0 p1fo_0 1 p3_0 x_1 x_2) (fun (p1fo_3 : OS) (p3_4 : Nat → Int64) (r_5 : Int32) =>
  gI L (v4 + (1 : Int32)) (Let (xs (v4 + (1 : Int32)).toNatClampNeg) (fun x_6 : Int32 =>
  gI L (v4 + (2 : Int32)) (Let (xs (v4 + (2 : Int32)).toNatClampNeg) (fun x_7 : Int32 =>
  bnd2 (f_X9_refusedIn n p2_0 x_6 x_7) (fun (p2_8 : OS) (r_9 : Int32) =>
  bnd (f_X9_thrown n p2_8) (fun (r_10 : Int32) =>
  if r_10 = r_5 then (
  if r_5 = 0 then (
  gI 1 (0 : Int32) (Let (p3_4 (0 : Int32).toNatClampNeg) (fun x_11 : Int64 =>
  if (lg_cmp x_11 ((r_9).toInt64)) = 0 then (
  some (p1_0, p1in_0, p1ou_0, p1ru_0, p1no_0, p1fo_3, p1rd_0, p1rr_0, p1pa_0, p2_8, p3_4, so_0)) else (
  none)))) else (
  some (p1_0, p1in_0, p1ou_0, p1ru_0, p1no_0, p1fo_3, p1rd_0, p1rr_0, p1pa_0, p2_8, p3_4, so_0))) else (
  none))))))))))))
set_option maxHeartbeats 4000000 in
set_option maxRecDepth 100000 in
theorem c_law_35 {p : Program} {l : Launch} {e : Env} {s : State} {m : MethodId} {below : List Frame} {meth : Method} {c : Code} {A : Nat → Prop} {Q : State → Prop} {b L : Nat} {xs : Nat → Int32} {k : KT} (n : Nat) (hE : EH k) (hx : XH l k) (hN : CCH k) (E : E0 p s m c cL_law 9 RL k A) (hX : va_X b L xs s s.heap) (hbl : b < s.heap.size) (hbA : ¬ A b) (hA : ∀ q : Nat, s.heap.size ≤ q → A q) (a_p1 : Nat → Nat) (a_p1in : Nat → Nat) (a_p1ou : Nat → Nat) (a_p1ru : Nat → Nat) (a_p1no : Nat → Nat) (a_p1fo : Nat → Nat) (a_p1rd : Nat → Nat) (a_p1rr : Nat → Nat) (a_p1pa : Nat → Nat) (a_p2 : Nat → Nat) (a_p3 : Nat → Nat) (pp_0 : Nat → Nat → Nat) (sa_0 : Nat → Nat) (v4 : Int32) (p1_0 : OS) (p1in_0 : OS) (p1ou_0 : OS) (p1ru_0 : OS) (p1no_0 : OS) (p1fo_0 : OS) (p1rd_0 : OS) (p1rr_0 : OS) (p1pa_0 : PS) (p2_0 : OS) (p3_0 : Nat → Int64) (so_0 : Option OS) (res : LST) (hf : f_law_35 n L xs v4 (svV sa_0 so_0) p1_0 p1in_0 p1ou_0 p1ru_0 p1no_0 p1fo_0 p1rd_0 p1rr_0 p1pa_0 p2_0 p3_0 so_0 = some res)
    (H : Heap) (locs : List Loc) (ls : Array Slot) (c0 s0 : Nat) (hc0 : c0 + 40 ≤ 601024) (hs0 : s0 + 8000 ≤ 7293034) (hW : WD k A s.heap ((List.flatten [wMCo k a_p1 (a_p1in 0) (a_p1ou 0) (a_p1ru 0) (a_p1no 0) (a_p1fo 0) (a_p1rd 0) (a_p1pa 0) (svV sa_0 so_0) p1_0, wBytes k a_p1in 600 p1in_0, wBytes k a_p1ou 1024 p1ou_0, wRules k a_p1ru p1ru_0, wCourt k a_p1no p1no_0, wCourt k a_p1fo p1fo_0, wReader k a_p1rd (a_p1in 0) (a_p1fo 0) (a_p1rr 0) p1rd_0, wRules k a_p1rr p1rr_0, wPast k a_p1pa pp_0 p1pa_0, wModel k a_p2 p2_0, wJArr k a_p3 1 p3_0] ++ savW k sa_0 so_0) ++ poolW k pp_0 p1pa_0.2) H locs) (hl : lv_has ls 9 [(0, .ref b), (1, .ref (a_p1 0)), (2, .ref (a_p2 0)), (3, .ref (a_p3 0)), (4, .int v4)])
    (hgo : ∀ (pp : Nat → Nat → Nat) (sa : Nat → Nat) (H : Heap) (locs : List Loc) (ls : Array Slot) (cells slots : Nat), cells ≤ c0 + 40 → slots ≤ s0 + 8000 → WD k A s.heap ((List.flatten [wMCo k a_p1 (a_p1in 0) (a_p1ou 0) (a_p1ru 0) (a_p1no 0) (a_p1fo 0) (a_p1rd 0) (a_p1pa 0) (svV sa (res.2.2.2.2.2.2.2.2.2.2.2)) (res.1), wBytes k a_p1in 600 (res.2.1), wBytes k a_p1ou 1024 (res.2.2.1), wRules k a_p1ru (res.2.2.2.1), wCourt k a_p1no (res.2.2.2.2.1), wCourt k a_p1fo (res.2.2.2.2.2.1), wReader k a_p1rd (a_p1in 0) (a_p1fo 0) (a_p1rr 0) (res.2.2.2.2.2.2.1), wRules k a_p1rr (res.2.2.2.2.2.2.2.1), wPast k a_p1pa pp (res.2.2.2.2.2.2.2.2.1), wModel k a_p2 (res.2.2.2.2.2.2.2.2.2.1), wJArr k a_p3 1 (res.2.2.2.2.2.2.2.2.2.2.1)] ++ savW k sa (res.2.2.2.2.2.2.2.2.2.2.2)) ++ poolW k pp (res.2.2.2.2.2.2.2.2.1).2) H locs → lv_has ls 9 [(0, .ref b), (1, .ref (a_p1 0)), (2, .ref (a_p2 0)), (3, .ref (a_p3 0)), (4, .int v4)] → W p l e room_1 s m #[Value.ref b] below meth c H locs cells slots Q (F0 m 2474 ls [])) :
    W p l e room_1 s m #[Value.ref b] below meth c H locs c0 s0 Q (F0 m 1840 ls []) := by
  unfold f_law_35 at hf
  refine k_aload_n E hl 1 dL_law_1840 rfl ?_
  refine k_aload_n E hl 0 dL_law_1841 rfl ?_
  refine k_iload E hl 4 dL_law_1842 rfl ?_
  refine lv_iconst (v := (1 : Int32)) E.hx E.hb dL_law_1844 ic_1 ?_
  refine lv_iadd E.hx E.hb dL_law_1845 ?_
  obtain ⟨hin, hf⟩ := oI hf
  obtain ⟨x_1, ex_1, hf⟩ := oL hf
  refine va_sld E.hx E.hb hX hbl hbA hW.2.2 hin dL_law_1846 ?_
  refine k_topi ex_1 ?_
  refine k_aload_n E hl 0 dL_law_1847 rfl ?_
  refine k_iload E hl 4 dL_law_1848 rfl ?_
  refine lv_iconst (v := (2 : Int32)) E.hx E.hb dL_law_1850 ic_2 ?_
  refine lv_iadd E.hx E.hb dL_law_1851 ?_
  obtain ⟨hin, hf⟩ := oI hf
  obtain ⟨x_2, ex_2, hf⟩ := oL hf
  refine va_sld E.hx E.hb hX hbl hbA hW.2.2 hin dL_law_1852 ?_
  refine k_topi ex_2 ?_
  refine k_aload_n E hl 3 dL_law_1853 rfl ?_
  obtain ⟨p1fo_3, p3_4, r_5, hg, hf⟩ := ob3 hf
  refine k_callSXi (As := [.ref (a_p1 0), .int x_1, .int x_2, .ref (a_p3 0)]) (rest := []) (ws2 := fun u => (List.flatten [wMCo k a_p1 (a_p1in 0) (a_p1ou 0) (a_p1ru 0) (a_p1no 0) (a_p1fo 0) (a_p1rd 0) (a_p1pa 0) (svV sa_0 so_0) p1_0, wBytes k a_p1in 600 p1in_0, wBytes k a_p1ou 1024 p1ou_0, wRules k a_p1ru p1ru_0, wCourt k a_p1no p1no_0, wCourt k a_p1fo (u.1), wReader k a_p1rd (a_p1in 0) (a_p1fo 0) (a_p1rr 0) p1rd_0, wRules k a_p1rr p1rr_0, wPast k a_p1pa pp_0 p1pa_0, wModel k a_p2 p2_0, wJArr k a_p3 1 (u.2)] ++ savW k sa_0 so_0) ++ poolW k pp_0 p1pa_0.2) (c_L_refusedIn n l k hN hx a_p1 a_p1in a_p1ou a_p1ru a_p1no a_p1fo a_p1rd a_p1pa a_p3 (svV sa_0 so_0) p1_0 p1ru_0 p1no_0 p1fo_0 1 p3_0 x_1 x_2 (p1fo_3, p3_4, r_5) hg) E sw_249 rfl dL_law_1854 rfl (posOf [1, 2, 2, 3, 12, 12, 1, 3, 2, 13, 1] [0, 3, 4, 5, 10]) hW hA hl rfl (law_map (ln := [1, 2, 2, 3, 12, 12, 1, 3, 2, 13, 1]) (is := [0, 3, 4, 5, 10]) (cs := [wMCo k a_p1 (a_p1in 0) (a_p1ou 0) (a_p1ru 0) (a_p1no 0) (a_p1fo 0) (a_p1rd 0) (a_p1pa 0) (svV sa_0 so_0) p1_0, wRules k a_p1ru p1ru_0, wCourt k a_p1no p1no_0, wCourt k a_p1fo p1fo_0, wJArr k a_p3 1 p3_0]) (fl5 _ _ _ _ _) rfl (by decide) rfl) ⟨Nat.le_of_ble_eq_true rfl, Nat.le_of_ble_eq_true rfl⟩ ⟨by show _ ≤ 601024; omega, by show _ ≤ 7293034; omega⟩ (Nat.le_of_ble_eq_true rfl) rfl (fun _ => rfl) (fun u => law_put (ln := [1, 2, 2, 3, 12, 12, 1, 3, 2, 13, 1]) (is := [0, 3, 4, 5, 10]) (cs0 := [wMCo k a_p1 (a_p1in 0) (a_p1ou 0) (a_p1ru 0) (a_p1no 0) (a_p1fo 0) (a_p1rd 0) (a_p1pa 0) (svV sa_0 so_0) p1_0, wRules k a_p1ru p1ru_0, wCourt k a_p1no p1no_0, wCourt k a_p1fo p1fo_0, wJArr k a_p3 1 p3_0]) (cs := [wMCo k a_p1 (a_p1in 0) (a_p1ou 0) (a_p1ru 0) (a_p1no 0) (a_p1fo 0) (a_p1rd 0) (a_p1pa 0) (svV sa_0 so_0) p1_0, wRules k a_p1ru p1ru_0, wCourt k a_p1no p1no_0, wCourt k a_p1fo (u.1), wJArr k a_p3 1 (u.2)]) (fl5 _ _ _ _ _) rfl (by decide) rfl rfl) (fun r u H locs hp hW => ?_)
  obtain ⟨u0, u1⟩ := u
  try dsimp only at hp
  cases hp
  have hW : WD k A s.heap ((List.flatten [wMCo k a_p1 (a_p1in 0) (a_p1ou 0) (a_p1ru 0) (a_p1no 0) (a_p1fo 0) (a_p1rd 0) (a_p1pa 0) (svV sa_0 so_0) p1_0, wBytes k a_p1in 600 p1in_0, wBytes k a_p1ou 1024 p1ou_0, wRules k a_p1ru p1ru_0, wCourt k a_p1no p1no_0, wCourt k a_p1fo p1fo_3, wReader k a_p1rd (a_p1in 0) (a_p1fo 0) (a_p1rr 0) p1rd_0, wRules k a_p1rr p1rr_0, wPast k a_p1pa pp_0 p1pa_0, wModel k a_p2 p2_0, wJArr k a_p3 1 p3_4] ++ savW k sa_0 so_0) ++ poolW k pp_0 p1pa_0.2) H locs := hW
  refine k_istore (lv' := [(5, .int r_5), (0, .ref b), (1, .ref (a_p1 0)), (2, .ref (a_p2 0)), (3, .ref (a_p3 0)), (4, .int v4)]) E rfl hl dL_law_1857 (by decide) rfl (fun ls hl => ?_)
  refine k_aload_n E hl 3 dL_law_1859 rfl ?_
  refine k_aload_n E hl 1 dL_law_1860 rfl ?_
  refine k_iload E hl 5 dL_law_1861 rfl ?_
  refine lv_iconst (v := (1 : Int32)) E.hx E.hb dL_law_1863 ic_1 ?_
  refine lv_iadd E.hx E.hb dL_law_1864 ?_
  obtain ⟨hin, hf⟩ := oI hf
  obtain ⟨x_6, ex_6, hf⟩ := oL hf
  refine va_sld E.hx E.hb hX hbl hbA hW.2.2 hin dL_law_1865 ?_
  refine k_topi ex_6 ?_
  refine k_aload_n E hl 1 dL_law_1866 rfl ?_
  refine k_iload E hl 5 dL_law_1867 rfl ?_
  refine lv_iconst (v := (2 : Int32)) E.hx E.hb dL_law_1869 ic_2 ?_
  refine lv_iadd E.hx E.hb dL_law_1870 ?_
  obtain ⟨hin, hf⟩ := oI hf
  obtain ⟨x_7, ex_7, hf⟩ := oL hf
  refine va_sld E.hx E.hb hX hbl hbA hW.2.2 hin dL_law_1871 ?_
  refine k_topi ex_7 ?_
  obtain ⟨p2_8, r_9, hg, hf⟩ := ob2 hf
  refine k_callVi (As := [.int x_6, .int x_7]) (rest := []) (ws2 := fun u => (List.flatten [wMCo k a_p1 (a_p1in 0) (a_p1ou 0) (a_p1ru 0) (a_p1no 0) (a_p1fo 0) (a_p1rd 0) (a_p1pa 0) (svV sa_0 so_0) p1_0, wBytes k a_p1in 600 p1in_0, wBytes k a_p1ou 1024 p1ou_0, wRules k a_p1ru p1ru_0, wCourt k a_p1no p1no_0, wCourt k a_p1fo p1fo_3, wReader k a_p1rd (a_p1in 0) (a_p1fo 0) (a_p1rr 0) p1rd_0, wRules k a_p1rr p1rr_0, wPast k a_p1pa pp_0 p1pa_0, wModel k a_p2 (u), wJArr k a_p3 1 p3_4] ++ savW k sa_0 so_0) ++ poolW k pp_0 p1pa_0.2) (c_X9_refusedIn n l k a_p2 p2_0 x_6 x_7 (p2_8, r_9) hg) E vl_L_251 dL_law_1872 rfl (posOf [1, 2, 2, 3, 12, 12, 1, 3, 2, 13, 1] [9]) 7 38 hW hA hl rfl (law_map (ln := [1, 2, 2, 3, 12, 12, 1, 3, 2, 13, 1]) (is := [9]) (cs := [wModel k a_p2 p2_0]) (fl1 _) rfl (by decide) rfl) rfl rfl ⟨Nat.le_of_ble_eq_true rfl, Nat.le_of_ble_eq_true rfl⟩ ⟨by show _ ≤ 601024; omega, by show _ ≤ 7293034; omega⟩ (Nat.le_of_ble_eq_true rfl) rfl (fun _ => rfl) (fun u => law_put (ln := [1, 2, 2, 3, 12, 12, 1, 3, 2, 13, 1]) (is := [9]) (cs0 := [wModel k a_p2 p2_0]) (cs := [wModel k a_p2 (u)]) (fl1 _) rfl (by decide) rfl rfl) (fun r u H locs hp hW => ?_)
  cases hp
  have hW : WD k A s.heap ((List.flatten [wMCo k a_p1 (a_p1in 0) (a_p1ou 0) (a_p1ru 0) (a_p1no 0) (a_p1fo 0) (a_p1rd 0) (a_p1pa 0) (svV sa_0 so_0) p1_0, wBytes k a_p1in 600 p1in_0, wBytes k a_p1ou 1024 p1ou_0, wRules k a_p1ru p1ru_0, wCourt k a_p1no p1no_0, wCourt k a_p1fo p1fo_3, wReader k a_p1rd (a_p1in 0) (a_p1fo 0) (a_p1rr 0) p1rd_0, wRules k a_p1rr p1rr_0, wPast k a_p1pa pp_0 p1pa_0, wModel k a_p2 p2_8, wJArr k a_p3 1 p3_4] ++ savW k sa_0 so_0) ++ poolW k pp_0 p1pa_0.2) H locs := hW
  refine k_istore (lv' := [(6, .int r_9), (5, .int r_5), (0, .ref b), (1, .ref (a_p1 0)), (2, .ref (a_p2 0)), (3, .ref (a_p3 0)), (4, .int v4)]) E rfl hl dL_law_1875 (by decide) rfl (fun ls hl => ?_)
  refine k_aload_n E hl 4 dL_law_1877 rfl ?_
  obtain ⟨r_10, hg, hf⟩ := ob hf
  refine k_callVi (As := []) (rest := []) (ws2 := fun u => (List.flatten [wMCo k a_p1 (a_p1in 0) (a_p1ou 0) (a_p1ru 0) (a_p1no 0) (a_p1fo 0) (a_p1rd 0) (a_p1pa 0) (svV sa_0 so_0) p1_0, wBytes k a_p1in 600 p1in_0, wBytes k a_p1ou 1024 p1ou_0, wRules k a_p1ru p1ru_0, wCourt k a_p1no p1no_0, wCourt k a_p1fo p1fo_3, wReader k a_p1rd (a_p1in 0) (a_p1fo 0) (a_p1rr 0) p1rd_0, wRules k a_p1rr p1rr_0, wPast k a_p1pa pp_0 p1pa_0, wModel k a_p2 p2_8, wJArr k a_p3 1 p3_4] ++ savW k sa_0 so_0) ++ poolW k pp_0 p1pa_0.2) (c_X9_thrown n l k a_p2 p2_8 r_10 hg) E vl_L_152 dL_law_1878 rfl (posOf [1, 2, 2, 3, 12, 12, 1, 3, 2, 13, 1] [9]) 7 38 hW hA hl rfl (law_map (ln := [1, 2, 2, 3, 12, 12, 1, 3, 2, 13, 1]) (is := [9]) (cs := [wModel k a_p2 p2_8]) (fl1 _) rfl (by decide) rfl) rfl rfl ⟨Nat.le_of_ble_eq_true rfl, Nat.le_of_ble_eq_true rfl⟩ ⟨by show _ ≤ 601024; omega, by show _ ≤ 7293034; omega⟩ (Nat.le_of_ble_eq_true rfl) rfl (fun _ => rfl) (fun u => law_put (ln := [1, 2, 2, 3, 12, 12, 1, 3, 2, 13, 1]) (is := [9]) (cs0 := [wModel k a_p2 p2_8]) (cs := [wModel k a_p2 p2_8]) (fl1 _) rfl (by decide) rfl rfl) (fun r u H locs hp hW => ?_)
  cases hp
  have hW : WD k A s.heap ((List.flatten [wMCo k a_p1 (a_p1in 0) (a_p1ou 0) (a_p1ru 0) (a_p1no 0) (a_p1fo 0) (a_p1rd 0) (a_p1pa 0) (svV sa_0 so_0) p1_0, wBytes k a_p1in 600 p1in_0, wBytes k a_p1ou 1024 p1ou_0, wRules k a_p1ru p1ru_0, wCourt k a_p1no p1no_0, wCourt k a_p1fo p1fo_3, wReader k a_p1rd (a_p1in 0) (a_p1fo 0) (a_p1rr 0) p1rd_0, wRules k a_p1rr p1rr_0, wPast k a_p1pa pp_0 p1pa_0, wModel k a_p2 p2_8, wJArr k a_p3 1 p3_4] ++ savW k sa_0 so_0) ++ poolW k pp_0 p1pa_0.2) H locs := hW
  refine k_iload E hl 1 dL_law_1881 rfl ?_
  refine lv_icmp_eq (tgt := 1888) E.hx E.hb dL_law_1883 (by decide) (fun hc => ?_) (fun hc => ?_)
  · have hf := oT hc hf
    refine k_iload E hl 1 dL_law_1888 rfl ?_
    refine lv_if_ne (tgt := 1905) E.hx E.hb dL_law_1890 (by decide) (fun hc => ?_) (fun hc => ?_)
    · have hf := oF hc hf
      refine lv_goto (tgt := 2474) E.hx E.hb dL_law_1905 (by decide) ?_
      exact hgo pp_0 sa_0 _ _ _ _ _ (by omega) (by omega) (by cases hf; exact hW) (lv_sub hl [2, 3, 4, 5, 6] rfl)
    · have hf := oT hc hf
      refine k_aload_n E hl 5 dL_law_1893 rfl ?_
      refine lv_iconst (v := (0 : Int32)) E.hx E.hb dL_law_1894 ic_0 ?_
      obtain ⟨hin, hf⟩ := oI hf
      obtain ⟨x_11, ex_11, hf⟩ := oL hf
      refine k_lald E hW 51 rfl hin dL_law_1895 ?_
      refine k_topl ex_11 ?_
      refine k_iload E hl 0 dL_law_1896 rfl ?_
      refine lv_i2l (v := (r_9).toInt64) E.hx E.hb dL_law_1898 rfl ?_
      refine W.lcmp E.hx E.hb dL_law_1899 ?_
      refine lv_if_eq (tgt := 1905) E.hx E.hb dL_law_1900 (by decide) (fun hc => ?_) (fun hc => ?_)
      · have hf := oT hc hf
        refine lv_goto (tgt := 2474) E.hx E.hb dL_law_1905 (by decide) ?_
        exact hgo pp_0 sa_0 _ _ _ _ _ (by omega) (by omega) (by cases hf; exact hW) (lv_sub hl [2, 3, 4, 5, 6] rfl)
      · have hf := oF hc hf
        refine lv_iconst (v := (0 : Int32)) E.hx E.hb dL_law_1903 ic_0 ?_
        exact o0 hf
  · have hf := oF hc hf
    refine lv_iconst (v := (0 : Int32)) E.hx E.hb dL_law_1886 ic_0 ?_
    exact o0 hf
def f_law_36 (n : Nat) (L : Nat) (xs : Nat → Int32) (v4 : Int32) (sv_0 : Value) (p1_0 : OS) (p1in_0 : OS) (p1ou_0 : OS) (p1ru_0 : OS) (p1no_0 : OS) (p1fo_0 : OS) (p1rd_0 : OS) (p1rr_0 : OS) (p1pa_0 : PS) (p2_0 : OS) (p3_0 : Nat → Int64) (so_0 : Option OS) : Option LST :=
  gI L (v4 + (1 : Int32)) (Let (xs (v4 + (1 : Int32)).toNatClampNeg) (fun x_1 : Int32 =>
  bnd3 (f_L_wouldFine n sv_0 p1_0 p1ru_0 p1no_0 p1fo_0 1 p3_0 x_1) (fun (p1fo_2 : OS) (p3_3 : Nat → Int64) (r_4 : Int32) =>
  gI L (v4 + (1 : Int32)) (Let (xs (v4 + (1 : Int32)).toNatClampNeg) (fun x_5 : Int32 =>
  bnd2 (f_X9_wouldFine n p2_0 x_5) (fun (p2_6 : OS) (r_7 : Int32) =>
  bnd (f_X9_thrown n p2_6) (fun (r_8 : Int32) =>
  if r_8 = r_4 then (
  if r_4 = 0 then (
  gI 1 (0 : Int32) (Let (p3_3 (0 : Int32).toNatClampNeg) (fun x_9 : Int64 =>
  if (lg_cmp x_9 ((r_7).toInt64)) = 0 then (
  some (p1_0, p1in_0, p1ou_0, p1ru_0, p1no_0, p1fo_2, p1rd_0, p1rr_0, p1pa_0, p2_6, p3_3, so_0)) else (
  none)))) else (
  some (p1_0, p1in_0, p1ou_0, p1ru_0, p1no_0, p1fo_2, p1rd_0, p1rr_0, p1pa_0, p2_6, p3_3, so_0))) else (
  none))))))))
set_option maxHeartbeats 4000000 in
set_option maxRecDepth 100000 in
theorem c_law_36 {p : Program} {l : Launch} {e : Env} {s : State} {m : MethodId} {below : List Frame} {meth : Method} {c : Code} {A : Nat → Prop} {Q : State → Prop} {b L : Nat} {xs : Nat → Int32} {k : KT} (n : Nat) (hE : EH k) (hx : XH l k) (hN : CCH k) (E : E0 p s m c cL_law 9 RL k A) (hX : va_X b L xs s s.heap) (hbl : b < s.heap.size) (hbA : ¬ A b) (hA : ∀ q : Nat, s.heap.size ≤ q → A q) (a_p1 : Nat → Nat) (a_p1in : Nat → Nat) (a_p1ou : Nat → Nat) (a_p1ru : Nat → Nat) (a_p1no : Nat → Nat) (a_p1fo : Nat → Nat) (a_p1rd : Nat → Nat) (a_p1rr : Nat → Nat) (a_p1pa : Nat → Nat) (a_p2 : Nat → Nat) (a_p3 : Nat → Nat) (pp_0 : Nat → Nat → Nat) (sa_0 : Nat → Nat) (v4 : Int32) (p1_0 : OS) (p1in_0 : OS) (p1ou_0 : OS) (p1ru_0 : OS) (p1no_0 : OS) (p1fo_0 : OS) (p1rd_0 : OS) (p1rr_0 : OS) (p1pa_0 : PS) (p2_0 : OS) (p3_0 : Nat → Int64) (so_0 : Option OS) (res : LST) (hf : f_law_36 n L xs v4 (svV sa_0 so_0) p1_0 p1in_0 p1ou_0 p1ru_0 p1no_0 p1fo_0 p1rd_0 p1rr_0 p1pa_0 p2_0 p3_0 so_0 = some res)
    (H : Heap) (locs : List Loc) (ls : Array Slot) (c0 s0 : Nat) (hc0 : c0 + 40 ≤ 601024) (hs0 : s0 + 8000 ≤ 7293034) (hW : WD k A s.heap ((List.flatten [wMCo k a_p1 (a_p1in 0) (a_p1ou 0) (a_p1ru 0) (a_p1no 0) (a_p1fo 0) (a_p1rd 0) (a_p1pa 0) (svV sa_0 so_0) p1_0, wBytes k a_p1in 600 p1in_0, wBytes k a_p1ou 1024 p1ou_0, wRules k a_p1ru p1ru_0, wCourt k a_p1no p1no_0, wCourt k a_p1fo p1fo_0, wReader k a_p1rd (a_p1in 0) (a_p1fo 0) (a_p1rr 0) p1rd_0, wRules k a_p1rr p1rr_0, wPast k a_p1pa pp_0 p1pa_0, wModel k a_p2 p2_0, wJArr k a_p3 1 p3_0] ++ savW k sa_0 so_0) ++ poolW k pp_0 p1pa_0.2) H locs) (hl : lv_has ls 9 [(0, .ref b), (1, .ref (a_p1 0)), (2, .ref (a_p2 0)), (3, .ref (a_p3 0)), (4, .int v4)])
    (hgo : ∀ (pp : Nat → Nat → Nat) (sa : Nat → Nat) (H : Heap) (locs : List Loc) (ls : Array Slot) (cells slots : Nat), cells ≤ c0 + 40 → slots ≤ s0 + 8000 → WD k A s.heap ((List.flatten [wMCo k a_p1 (a_p1in 0) (a_p1ou 0) (a_p1ru 0) (a_p1no 0) (a_p1fo 0) (a_p1rd 0) (a_p1pa 0) (svV sa (res.2.2.2.2.2.2.2.2.2.2.2)) (res.1), wBytes k a_p1in 600 (res.2.1), wBytes k a_p1ou 1024 (res.2.2.1), wRules k a_p1ru (res.2.2.2.1), wCourt k a_p1no (res.2.2.2.2.1), wCourt k a_p1fo (res.2.2.2.2.2.1), wReader k a_p1rd (a_p1in 0) (a_p1fo 0) (a_p1rr 0) (res.2.2.2.2.2.2.1), wRules k a_p1rr (res.2.2.2.2.2.2.2.1), wPast k a_p1pa pp (res.2.2.2.2.2.2.2.2.1), wModel k a_p2 (res.2.2.2.2.2.2.2.2.2.1), wJArr k a_p3 1 (res.2.2.2.2.2.2.2.2.2.2.1)] ++ savW k sa (res.2.2.2.2.2.2.2.2.2.2.2)) ++ poolW k pp (res.2.2.2.2.2.2.2.2.1).2) H locs → lv_has ls 9 [(0, .ref b), (1, .ref (a_p1 0)), (2, .ref (a_p2 0)), (3, .ref (a_p3 0)), (4, .int v4)] → W p l e room_1 s m #[Value.ref b] below meth c H locs cells slots Q (F0 m 2474 ls [])) :
    W p l e room_1 s m #[Value.ref b] below meth c H locs c0 s0 Q (F0 m 1908 ls []) := by
  unfold f_law_36 at hf
  refine k_aload_n E hl 1 dL_law_1908 rfl ?_
  refine k_aload_n E hl 0 dL_law_1909 rfl ?_
  refine k_iload E hl 4 dL_law_1910 rfl ?_
  refine lv_iconst (v := (1 : Int32)) E.hx E.hb dL_law_1912 ic_1 ?_
  refine lv_iadd E.hx E.hb dL_law_1913 ?_
  obtain ⟨hin, hf⟩ := oI hf
  obtain ⟨x_1, ex_1, hf⟩ := oL hf
  refine va_sld E.hx E.hb hX hbl hbA hW.2.2 hin dL_law_1914 ?_
  refine k_topi ex_1 ?_
  refine k_aload_n E hl 3 dL_law_1915 rfl ?_
  obtain ⟨p1fo_2, p3_3, r_4, hg, hf⟩ := ob3 hf
  refine k_callSXi (As := [.ref (a_p1 0), .int x_1, .ref (a_p3 0)]) (rest := []) (ws2 := fun u => (List.flatten [wMCo k a_p1 (a_p1in 0) (a_p1ou 0) (a_p1ru 0) (a_p1no 0) (a_p1fo 0) (a_p1rd 0) (a_p1pa 0) (svV sa_0 so_0) p1_0, wBytes k a_p1in 600 p1in_0, wBytes k a_p1ou 1024 p1ou_0, wRules k a_p1ru p1ru_0, wCourt k a_p1no p1no_0, wCourt k a_p1fo (u.1), wReader k a_p1rd (a_p1in 0) (a_p1fo 0) (a_p1rr 0) p1rd_0, wRules k a_p1rr p1rr_0, wPast k a_p1pa pp_0 p1pa_0, wModel k a_p2 p2_0, wJArr k a_p3 1 (u.2)] ++ savW k sa_0 so_0) ++ poolW k pp_0 p1pa_0.2) (c_L_wouldFine n l k hN hx a_p1 a_p1in a_p1ou a_p1ru a_p1no a_p1fo a_p1rd a_p1pa a_p3 (svV sa_0 so_0) p1_0 p1ru_0 p1no_0 p1fo_0 1 p3_0 x_1 (p1fo_2, p3_3, r_4) hg) E sw_252 rfl dL_law_1916 rfl (posOf [1, 2, 2, 3, 12, 12, 1, 3, 2, 13, 1] [0, 3, 4, 5, 10]) hW hA hl rfl (law_map (ln := [1, 2, 2, 3, 12, 12, 1, 3, 2, 13, 1]) (is := [0, 3, 4, 5, 10]) (cs := [wMCo k a_p1 (a_p1in 0) (a_p1ou 0) (a_p1ru 0) (a_p1no 0) (a_p1fo 0) (a_p1rd 0) (a_p1pa 0) (svV sa_0 so_0) p1_0, wRules k a_p1ru p1ru_0, wCourt k a_p1no p1no_0, wCourt k a_p1fo p1fo_0, wJArr k a_p3 1 p3_0]) (fl5 _ _ _ _ _) rfl (by decide) rfl) ⟨Nat.le_of_ble_eq_true rfl, Nat.le_of_ble_eq_true rfl⟩ ⟨by show _ ≤ 601024; omega, by show _ ≤ 7293034; omega⟩ (Nat.le_of_ble_eq_true rfl) rfl (fun _ => rfl) (fun u => law_put (ln := [1, 2, 2, 3, 12, 12, 1, 3, 2, 13, 1]) (is := [0, 3, 4, 5, 10]) (cs0 := [wMCo k a_p1 (a_p1in 0) (a_p1ou 0) (a_p1ru 0) (a_p1no 0) (a_p1fo 0) (a_p1rd 0) (a_p1pa 0) (svV sa_0 so_0) p1_0, wRules k a_p1ru p1ru_0, wCourt k a_p1no p1no_0, wCourt k a_p1fo p1fo_0, wJArr k a_p3 1 p3_0]) (cs := [wMCo k a_p1 (a_p1in 0) (a_p1ou 0) (a_p1ru 0) (a_p1no 0) (a_p1fo 0) (a_p1rd 0) (a_p1pa 0) (svV sa_0 so_0) p1_0, wRules k a_p1ru p1ru_0, wCourt k a_p1no p1no_0, wCourt k a_p1fo (u.1), wJArr k a_p3 1 (u.2)]) (fl5 _ _ _ _ _) rfl (by decide) rfl rfl) (fun r u H locs hp hW => ?_)
  obtain ⟨u0, u1⟩ := u
  try dsimp only at hp
  cases hp
  have hW : WD k A s.heap ((List.flatten [wMCo k a_p1 (a_p1in 0) (a_p1ou 0) (a_p1ru 0) (a_p1no 0) (a_p1fo 0) (a_p1rd 0) (a_p1pa 0) (svV sa_0 so_0) p1_0, wBytes k a_p1in 600 p1in_0, wBytes k a_p1ou 1024 p1ou_0, wRules k a_p1ru p1ru_0, wCourt k a_p1no p1no_0, wCourt k a_p1fo p1fo_2, wReader k a_p1rd (a_p1in 0) (a_p1fo 0) (a_p1rr 0) p1rd_0, wRules k a_p1rr p1rr_0, wPast k a_p1pa pp_0 p1pa_0, wModel k a_p2 p2_0, wJArr k a_p3 1 p3_3] ++ savW k sa_0 so_0) ++ poolW k pp_0 p1pa_0.2) H locs := hW
  refine k_istore (lv' := [(5, .int r_4), (0, .ref b), (1, .ref (a_p1 0)), (2, .ref (a_p2 0)), (3, .ref (a_p3 0)), (4, .int v4)]) E rfl hl dL_law_1919 (by decide) rfl (fun ls hl => ?_)
  refine k_aload_n E hl 3 dL_law_1921 rfl ?_
  refine k_aload_n E hl 1 dL_law_1922 rfl ?_
  refine k_iload E hl 5 dL_law_1923 rfl ?_
  refine lv_iconst (v := (1 : Int32)) E.hx E.hb dL_law_1925 ic_1 ?_
  refine lv_iadd E.hx E.hb dL_law_1926 ?_
  obtain ⟨hin, hf⟩ := oI hf
  obtain ⟨x_5, ex_5, hf⟩ := oL hf
  refine va_sld E.hx E.hb hX hbl hbA hW.2.2 hin dL_law_1927 ?_
  refine k_topi ex_5 ?_
  obtain ⟨p2_6, r_7, hg, hf⟩ := ob2 hf
  refine k_callVi (As := [.int x_5]) (rest := []) (ws2 := fun u => (List.flatten [wMCo k a_p1 (a_p1in 0) (a_p1ou 0) (a_p1ru 0) (a_p1no 0) (a_p1fo 0) (a_p1rd 0) (a_p1pa 0) (svV sa_0 so_0) p1_0, wBytes k a_p1in 600 p1in_0, wBytes k a_p1ou 1024 p1ou_0, wRules k a_p1ru p1ru_0, wCourt k a_p1no p1no_0, wCourt k a_p1fo p1fo_2, wReader k a_p1rd (a_p1in 0) (a_p1fo 0) (a_p1rr 0) p1rd_0, wRules k a_p1rr p1rr_0, wPast k a_p1pa pp_0 p1pa_0, wModel k a_p2 (u), wJArr k a_p3 1 p3_3] ++ savW k sa_0 so_0) ++ poolW k pp_0 p1pa_0.2) (c_X9_wouldFine n l k a_p2 p2_0 x_5 (p2_6, r_7) hg) E vl_L_254 dL_law_1928 rfl (posOf [1, 2, 2, 3, 12, 12, 1, 3, 2, 13, 1] [9]) 7 38 hW hA hl rfl (law_map (ln := [1, 2, 2, 3, 12, 12, 1, 3, 2, 13, 1]) (is := [9]) (cs := [wModel k a_p2 p2_0]) (fl1 _) rfl (by decide) rfl) rfl rfl ⟨Nat.le_of_ble_eq_true rfl, Nat.le_of_ble_eq_true rfl⟩ ⟨by show _ ≤ 601024; omega, by show _ ≤ 7293034; omega⟩ (Nat.le_of_ble_eq_true rfl) rfl (fun _ => rfl) (fun u => law_put (ln := [1, 2, 2, 3, 12, 12, 1, 3, 2, 13, 1]) (is := [9]) (cs0 := [wModel k a_p2 p2_0]) (cs := [wModel k a_p2 (u)]) (fl1 _) rfl (by decide) rfl rfl) (fun r u H locs hp hW => ?_)
  cases hp
  have hW : WD k A s.heap ((List.flatten [wMCo k a_p1 (a_p1in 0) (a_p1ou 0) (a_p1ru 0) (a_p1no 0) (a_p1fo 0) (a_p1rd 0) (a_p1pa 0) (svV sa_0 so_0) p1_0, wBytes k a_p1in 600 p1in_0, wBytes k a_p1ou 1024 p1ou_0, wRules k a_p1ru p1ru_0, wCourt k a_p1no p1no_0, wCourt k a_p1fo p1fo_2, wReader k a_p1rd (a_p1in 0) (a_p1fo 0) (a_p1rr 0) p1rd_0, wRules k a_p1rr p1rr_0, wPast k a_p1pa pp_0 p1pa_0, wModel k a_p2 p2_6, wJArr k a_p3 1 p3_3] ++ savW k sa_0 so_0) ++ poolW k pp_0 p1pa_0.2) H locs := hW
  refine k_istore (lv' := [(6, .int r_7), (5, .int r_4), (0, .ref b), (1, .ref (a_p1 0)), (2, .ref (a_p2 0)), (3, .ref (a_p3 0)), (4, .int v4)]) E rfl hl dL_law_1931 (by decide) rfl (fun ls hl => ?_)
  refine k_aload_n E hl 4 dL_law_1933 rfl ?_
  obtain ⟨r_8, hg, hf⟩ := ob hf
  refine k_callVi (As := []) (rest := []) (ws2 := fun u => (List.flatten [wMCo k a_p1 (a_p1in 0) (a_p1ou 0) (a_p1ru 0) (a_p1no 0) (a_p1fo 0) (a_p1rd 0) (a_p1pa 0) (svV sa_0 so_0) p1_0, wBytes k a_p1in 600 p1in_0, wBytes k a_p1ou 1024 p1ou_0, wRules k a_p1ru p1ru_0, wCourt k a_p1no p1no_0, wCourt k a_p1fo p1fo_2, wReader k a_p1rd (a_p1in 0) (a_p1fo 0) (a_p1rr 0) p1rd_0, wRules k a_p1rr p1rr_0, wPast k a_p1pa pp_0 p1pa_0, wModel k a_p2 p2_6, wJArr k a_p3 1 p3_3] ++ savW k sa_0 so_0) ++ poolW k pp_0 p1pa_0.2) (c_X9_thrown n l k a_p2 p2_6 r_8 hg) E vl_L_152 dL_law_1934 rfl (posOf [1, 2, 2, 3, 12, 12, 1, 3, 2, 13, 1] [9]) 7 38 hW hA hl rfl (law_map (ln := [1, 2, 2, 3, 12, 12, 1, 3, 2, 13, 1]) (is := [9]) (cs := [wModel k a_p2 p2_6]) (fl1 _) rfl (by decide) rfl) rfl rfl ⟨Nat.le_of_ble_eq_true rfl, Nat.le_of_ble_eq_true rfl⟩ ⟨by show _ ≤ 601024; omega, by show _ ≤ 7293034; omega⟩ (Nat.le_of_ble_eq_true rfl) rfl (fun _ => rfl) (fun u => law_put (ln := [1, 2, 2, 3, 12, 12, 1, 3, 2, 13, 1]) (is := [9]) (cs0 := [wModel k a_p2 p2_6]) (cs := [wModel k a_p2 p2_6]) (fl1 _) rfl (by decide) rfl rfl) (fun r u H locs hp hW => ?_)
  cases hp
  have hW : WD k A s.heap ((List.flatten [wMCo k a_p1 (a_p1in 0) (a_p1ou 0) (a_p1ru 0) (a_p1no 0) (a_p1fo 0) (a_p1rd 0) (a_p1pa 0) (svV sa_0 so_0) p1_0, wBytes k a_p1in 600 p1in_0, wBytes k a_p1ou 1024 p1ou_0, wRules k a_p1ru p1ru_0, wCourt k a_p1no p1no_0, wCourt k a_p1fo p1fo_2, wReader k a_p1rd (a_p1in 0) (a_p1fo 0) (a_p1rr 0) p1rd_0, wRules k a_p1rr p1rr_0, wPast k a_p1pa pp_0 p1pa_0, wModel k a_p2 p2_6, wJArr k a_p3 1 p3_3] ++ savW k sa_0 so_0) ++ poolW k pp_0 p1pa_0.2) H locs := hW
  refine k_iload E hl 1 dL_law_1937 rfl ?_
  refine lv_icmp_eq (tgt := 1944) E.hx E.hb dL_law_1939 (by decide) (fun hc => ?_) (fun hc => ?_)
  · have hf := oT hc hf
    refine k_iload E hl 1 dL_law_1944 rfl ?_
    refine lv_if_ne (tgt := 1961) E.hx E.hb dL_law_1946 (by decide) (fun hc => ?_) (fun hc => ?_)
    · have hf := oF hc hf
      refine lv_goto (tgt := 2474) E.hx E.hb dL_law_1961 (by decide) ?_
      exact hgo pp_0 sa_0 _ _ _ _ _ (by omega) (by omega) (by cases hf; exact hW) (lv_sub hl [2, 3, 4, 5, 6] rfl)
    · have hf := oT hc hf
      refine k_aload_n E hl 5 dL_law_1949 rfl ?_
      refine lv_iconst (v := (0 : Int32)) E.hx E.hb dL_law_1950 ic_0 ?_
      obtain ⟨hin, hf⟩ := oI hf
      obtain ⟨x_9, ex_9, hf⟩ := oL hf
      refine k_lald E hW 51 rfl hin dL_law_1951 ?_
      refine k_topl ex_9 ?_
      refine k_iload E hl 0 dL_law_1952 rfl ?_
      refine lv_i2l (v := (r_7).toInt64) E.hx E.hb dL_law_1954 rfl ?_
      refine W.lcmp E.hx E.hb dL_law_1955 ?_
      refine lv_if_eq (tgt := 1961) E.hx E.hb dL_law_1956 (by decide) (fun hc => ?_) (fun hc => ?_)
      · have hf := oT hc hf
        refine lv_goto (tgt := 2474) E.hx E.hb dL_law_1961 (by decide) ?_
        exact hgo pp_0 sa_0 _ _ _ _ _ (by omega) (by omega) (by cases hf; exact hW) (lv_sub hl [2, 3, 4, 5, 6] rfl)
      · have hf := oF hc hf
        refine lv_iconst (v := (0 : Int32)) E.hx E.hb dL_law_1959 ic_0 ?_
        exact o0 hf
  · have hf := oF hc hf
    refine lv_iconst (v := (0 : Int32)) E.hx E.hb dL_law_1942 ic_0 ?_
    exact o0 hf
def f_law_37 (n : Nat) (L : Nat) (xs : Nat → Int32) (v4 : Int32) (sv_0 : Value) (p1_0 : OS) (p1in_0 : OS) (p1ou_0 : OS) (p1ru_0 : OS) (p1no_0 : OS) (p1fo_0 : OS) (p1rd_0 : OS) (p1rr_0 : OS) (p1pa_0 : PS) (p2_0 : OS) (p3_0 : Nat → Int64) (so_0 : Option OS) : Option LST :=
  gI L (v4 + (1 : Int32)) (Let (xs (v4 + (1 : Int32)).toNatClampNeg) (fun x_1 : Int32 =>
  bnd3 (f_L_wouldPay n sv_0 p1_0 p1ru_0 p1no_0 p1fo_0 1 p3_0 x_1) (fun (p1fo_2 : OS) (p3_3 : Nat → Int64) (r_4 : Int32) =>
  gI L (v4 + (1 : Int32)) (Let (xs (v4 + (1 : Int32)).toNatClampNeg) (fun x_5 : Int32 =>
  bnd2 (f_X9_wouldPay n p2_0 x_5) (fun (p2_6 : OS) (r_7 : Int32) =>
  bnd (f_X9_thrown n p2_6) (fun (r_8 : Int32) =>
  if r_8 = r_4 then (
  if r_4 = 0 then (
  gI 1 (0 : Int32) (Let (p3_3 (0 : Int32).toNatClampNeg) (fun x_9 : Int64 =>
  if (lg_cmp x_9 ((r_7).toInt64)) = 0 then (
  some (p1_0, p1in_0, p1ou_0, p1ru_0, p1no_0, p1fo_2, p1rd_0, p1rr_0, p1pa_0, p2_6, p3_3, so_0)) else (
  none)))) else (
  some (p1_0, p1in_0, p1ou_0, p1ru_0, p1no_0, p1fo_2, p1rd_0, p1rr_0, p1pa_0, p2_6, p3_3, so_0))) else (
  none))))))))
set_option maxHeartbeats 4000000 in
set_option maxRecDepth 100000 in
theorem c_law_37 {p : Program} {l : Launch} {e : Env} {s : State} {m : MethodId} {below : List Frame} {meth : Method} {c : Code} {A : Nat → Prop} {Q : State → Prop} {b L : Nat} {xs : Nat → Int32} {k : KT} (n : Nat) (hE : EH k) (hx : XH l k) (hN : CCH k) (E : E0 p s m c cL_law 9 RL k A) (hX : va_X b L xs s s.heap) (hbl : b < s.heap.size) (hbA : ¬ A b) (hA : ∀ q : Nat, s.heap.size ≤ q → A q) (a_p1 : Nat → Nat) (a_p1in : Nat → Nat) (a_p1ou : Nat → Nat) (a_p1ru : Nat → Nat) (a_p1no : Nat → Nat) (a_p1fo : Nat → Nat) (a_p1rd : Nat → Nat) (a_p1rr : Nat → Nat) (a_p1pa : Nat → Nat) (a_p2 : Nat → Nat) (a_p3 : Nat → Nat) (pp_0 : Nat → Nat → Nat) (sa_0 : Nat → Nat) (v4 : Int32) (p1_0 : OS) (p1in_0 : OS) (p1ou_0 : OS) (p1ru_0 : OS) (p1no_0 : OS) (p1fo_0 : OS) (p1rd_0 : OS) (p1rr_0 : OS) (p1pa_0 : PS) (p2_0 : OS) (p3_0 : Nat → Int64) (so_0 : Option OS) (res : LST) (hf : f_law_37 n L xs v4 (svV sa_0 so_0) p1_0 p1in_0 p1ou_0 p1ru_0 p1no_0 p1fo_0 p1rd_0 p1rr_0 p1pa_0 p2_0 p3_0 so_0 = some res)
    (H : Heap) (locs : List Loc) (ls : Array Slot) (c0 s0 : Nat) (hc0 : c0 + 40 ≤ 601024) (hs0 : s0 + 8000 ≤ 7293034) (hW : WD k A s.heap ((List.flatten [wMCo k a_p1 (a_p1in 0) (a_p1ou 0) (a_p1ru 0) (a_p1no 0) (a_p1fo 0) (a_p1rd 0) (a_p1pa 0) (svV sa_0 so_0) p1_0, wBytes k a_p1in 600 p1in_0, wBytes k a_p1ou 1024 p1ou_0, wRules k a_p1ru p1ru_0, wCourt k a_p1no p1no_0, wCourt k a_p1fo p1fo_0, wReader k a_p1rd (a_p1in 0) (a_p1fo 0) (a_p1rr 0) p1rd_0, wRules k a_p1rr p1rr_0, wPast k a_p1pa pp_0 p1pa_0, wModel k a_p2 p2_0, wJArr k a_p3 1 p3_0] ++ savW k sa_0 so_0) ++ poolW k pp_0 p1pa_0.2) H locs) (hl : lv_has ls 9 [(0, .ref b), (1, .ref (a_p1 0)), (2, .ref (a_p2 0)), (3, .ref (a_p3 0)), (4, .int v4)])
    (hgo : ∀ (pp : Nat → Nat → Nat) (sa : Nat → Nat) (H : Heap) (locs : List Loc) (ls : Array Slot) (cells slots : Nat), cells ≤ c0 + 40 → slots ≤ s0 + 8000 → WD k A s.heap ((List.flatten [wMCo k a_p1 (a_p1in 0) (a_p1ou 0) (a_p1ru 0) (a_p1no 0) (a_p1fo 0) (a_p1rd 0) (a_p1pa 0) (svV sa (res.2.2.2.2.2.2.2.2.2.2.2)) (res.1), wBytes k a_p1in 600 (res.2.1), wBytes k a_p1ou 1024 (res.2.2.1), wRules k a_p1ru (res.2.2.2.1), wCourt k a_p1no (res.2.2.2.2.1), wCourt k a_p1fo (res.2.2.2.2.2.1), wReader k a_p1rd (a_p1in 0) (a_p1fo 0) (a_p1rr 0) (res.2.2.2.2.2.2.1), wRules k a_p1rr (res.2.2.2.2.2.2.2.1), wPast k a_p1pa pp (res.2.2.2.2.2.2.2.2.1), wModel k a_p2 (res.2.2.2.2.2.2.2.2.2.1), wJArr k a_p3 1 (res.2.2.2.2.2.2.2.2.2.2.1)] ++ savW k sa (res.2.2.2.2.2.2.2.2.2.2.2)) ++ poolW k pp (res.2.2.2.2.2.2.2.2.1).2) H locs → lv_has ls 9 [(0, .ref b), (1, .ref (a_p1 0)), (2, .ref (a_p2 0)), (3, .ref (a_p3 0)), (4, .int v4)] → W p l e room_1 s m #[Value.ref b] below meth c H locs cells slots Q (F0 m 2474 ls [])) :
    W p l e room_1 s m #[Value.ref b] below meth c H locs c0 s0 Q (F0 m 1964 ls []) := by
  unfold f_law_37 at hf
  refine k_aload_n E hl 1 dL_law_1964 rfl ?_
  refine k_aload_n E hl 0 dL_law_1965 rfl ?_
  refine k_iload E hl 4 dL_law_1966 rfl ?_
  refine lv_iconst (v := (1 : Int32)) E.hx E.hb dL_law_1968 ic_1 ?_
  refine lv_iadd E.hx E.hb dL_law_1969 ?_
  obtain ⟨hin, hf⟩ := oI hf
  obtain ⟨x_1, ex_1, hf⟩ := oL hf
  refine va_sld E.hx E.hb hX hbl hbA hW.2.2 hin dL_law_1970 ?_
  refine k_topi ex_1 ?_
  refine k_aload_n E hl 3 dL_law_1971 rfl ?_
  obtain ⟨p1fo_2, p3_3, r_4, hg, hf⟩ := ob3 hf
  refine k_callSXi (As := [.ref (a_p1 0), .int x_1, .ref (a_p3 0)]) (rest := []) (ws2 := fun u => (List.flatten [wMCo k a_p1 (a_p1in 0) (a_p1ou 0) (a_p1ru 0) (a_p1no 0) (a_p1fo 0) (a_p1rd 0) (a_p1pa 0) (svV sa_0 so_0) p1_0, wBytes k a_p1in 600 p1in_0, wBytes k a_p1ou 1024 p1ou_0, wRules k a_p1ru p1ru_0, wCourt k a_p1no p1no_0, wCourt k a_p1fo (u.1), wReader k a_p1rd (a_p1in 0) (a_p1fo 0) (a_p1rr 0) p1rd_0, wRules k a_p1rr p1rr_0, wPast k a_p1pa pp_0 p1pa_0, wModel k a_p2 p2_0, wJArr k a_p3 1 (u.2)] ++ savW k sa_0 so_0) ++ poolW k pp_0 p1pa_0.2) (c_L_wouldPay n l k hN hx a_p1 a_p1in a_p1ou a_p1ru a_p1no a_p1fo a_p1rd a_p1pa a_p3 (svV sa_0 so_0) p1_0 p1ru_0 p1no_0 p1fo_0 1 p3_0 x_1 (p1fo_2, p3_3, r_4) hg) E sw_255 rfl dL_law_1972 rfl (posOf [1, 2, 2, 3, 12, 12, 1, 3, 2, 13, 1] [0, 3, 4, 5, 10]) hW hA hl rfl (law_map (ln := [1, 2, 2, 3, 12, 12, 1, 3, 2, 13, 1]) (is := [0, 3, 4, 5, 10]) (cs := [wMCo k a_p1 (a_p1in 0) (a_p1ou 0) (a_p1ru 0) (a_p1no 0) (a_p1fo 0) (a_p1rd 0) (a_p1pa 0) (svV sa_0 so_0) p1_0, wRules k a_p1ru p1ru_0, wCourt k a_p1no p1no_0, wCourt k a_p1fo p1fo_0, wJArr k a_p3 1 p3_0]) (fl5 _ _ _ _ _) rfl (by decide) rfl) ⟨Nat.le_of_ble_eq_true rfl, Nat.le_of_ble_eq_true rfl⟩ ⟨by show _ ≤ 601024; omega, by show _ ≤ 7293034; omega⟩ (Nat.le_of_ble_eq_true rfl) rfl (fun _ => rfl) (fun u => law_put (ln := [1, 2, 2, 3, 12, 12, 1, 3, 2, 13, 1]) (is := [0, 3, 4, 5, 10]) (cs0 := [wMCo k a_p1 (a_p1in 0) (a_p1ou 0) (a_p1ru 0) (a_p1no 0) (a_p1fo 0) (a_p1rd 0) (a_p1pa 0) (svV sa_0 so_0) p1_0, wRules k a_p1ru p1ru_0, wCourt k a_p1no p1no_0, wCourt k a_p1fo p1fo_0, wJArr k a_p3 1 p3_0]) (cs := [wMCo k a_p1 (a_p1in 0) (a_p1ou 0) (a_p1ru 0) (a_p1no 0) (a_p1fo 0) (a_p1rd 0) (a_p1pa 0) (svV sa_0 so_0) p1_0, wRules k a_p1ru p1ru_0, wCourt k a_p1no p1no_0, wCourt k a_p1fo (u.1), wJArr k a_p3 1 (u.2)]) (fl5 _ _ _ _ _) rfl (by decide) rfl rfl) (fun r u H locs hp hW => ?_)
  obtain ⟨u0, u1⟩ := u
  try dsimp only at hp
  cases hp
  have hW : WD k A s.heap ((List.flatten [wMCo k a_p1 (a_p1in 0) (a_p1ou 0) (a_p1ru 0) (a_p1no 0) (a_p1fo 0) (a_p1rd 0) (a_p1pa 0) (svV sa_0 so_0) p1_0, wBytes k a_p1in 600 p1in_0, wBytes k a_p1ou 1024 p1ou_0, wRules k a_p1ru p1ru_0, wCourt k a_p1no p1no_0, wCourt k a_p1fo p1fo_2, wReader k a_p1rd (a_p1in 0) (a_p1fo 0) (a_p1rr 0) p1rd_0, wRules k a_p1rr p1rr_0, wPast k a_p1pa pp_0 p1pa_0, wModel k a_p2 p2_0, wJArr k a_p3 1 p3_3] ++ savW k sa_0 so_0) ++ poolW k pp_0 p1pa_0.2) H locs := hW
  refine k_istore (lv' := [(5, .int r_4), (0, .ref b), (1, .ref (a_p1 0)), (2, .ref (a_p2 0)), (3, .ref (a_p3 0)), (4, .int v4)]) E rfl hl dL_law_1975 (by decide) rfl (fun ls hl => ?_)
  refine k_aload_n E hl 3 dL_law_1977 rfl ?_
  refine k_aload_n E hl 1 dL_law_1978 rfl ?_
  refine k_iload E hl 5 dL_law_1979 rfl ?_
  refine lv_iconst (v := (1 : Int32)) E.hx E.hb dL_law_1981 ic_1 ?_
  refine lv_iadd E.hx E.hb dL_law_1982 ?_
  obtain ⟨hin, hf⟩ := oI hf
  obtain ⟨x_5, ex_5, hf⟩ := oL hf
  refine va_sld E.hx E.hb hX hbl hbA hW.2.2 hin dL_law_1983 ?_
  refine k_topi ex_5 ?_
  obtain ⟨p2_6, r_7, hg, hf⟩ := ob2 hf
  refine k_callVi (As := [.int x_5]) (rest := []) (ws2 := fun u => (List.flatten [wMCo k a_p1 (a_p1in 0) (a_p1ou 0) (a_p1ru 0) (a_p1no 0) (a_p1fo 0) (a_p1rd 0) (a_p1pa 0) (svV sa_0 so_0) p1_0, wBytes k a_p1in 600 p1in_0, wBytes k a_p1ou 1024 p1ou_0, wRules k a_p1ru p1ru_0, wCourt k a_p1no p1no_0, wCourt k a_p1fo p1fo_2, wReader k a_p1rd (a_p1in 0) (a_p1fo 0) (a_p1rr 0) p1rd_0, wRules k a_p1rr p1rr_0, wPast k a_p1pa pp_0 p1pa_0, wModel k a_p2 (u), wJArr k a_p3 1 p3_3] ++ savW k sa_0 so_0) ++ poolW k pp_0 p1pa_0.2) (c_X9_wouldPay n l k a_p2 p2_0 x_5 (p2_6, r_7) hg) E vl_L_257 dL_law_1984 rfl (posOf [1, 2, 2, 3, 12, 12, 1, 3, 2, 13, 1] [9]) 7 38 hW hA hl rfl (law_map (ln := [1, 2, 2, 3, 12, 12, 1, 3, 2, 13, 1]) (is := [9]) (cs := [wModel k a_p2 p2_0]) (fl1 _) rfl (by decide) rfl) rfl rfl ⟨Nat.le_of_ble_eq_true rfl, Nat.le_of_ble_eq_true rfl⟩ ⟨by show _ ≤ 601024; omega, by show _ ≤ 7293034; omega⟩ (Nat.le_of_ble_eq_true rfl) rfl (fun _ => rfl) (fun u => law_put (ln := [1, 2, 2, 3, 12, 12, 1, 3, 2, 13, 1]) (is := [9]) (cs0 := [wModel k a_p2 p2_0]) (cs := [wModel k a_p2 (u)]) (fl1 _) rfl (by decide) rfl rfl) (fun r u H locs hp hW => ?_)
  cases hp
  have hW : WD k A s.heap ((List.flatten [wMCo k a_p1 (a_p1in 0) (a_p1ou 0) (a_p1ru 0) (a_p1no 0) (a_p1fo 0) (a_p1rd 0) (a_p1pa 0) (svV sa_0 so_0) p1_0, wBytes k a_p1in 600 p1in_0, wBytes k a_p1ou 1024 p1ou_0, wRules k a_p1ru p1ru_0, wCourt k a_p1no p1no_0, wCourt k a_p1fo p1fo_2, wReader k a_p1rd (a_p1in 0) (a_p1fo 0) (a_p1rr 0) p1rd_0, wRules k a_p1rr p1rr_0, wPast k a_p1pa pp_0 p1pa_0, wModel k a_p2 p2_6, wJArr k a_p3 1 p3_3] ++ savW k sa_0 so_0) ++ poolW k pp_0 p1pa_0.2) H locs := hW
  refine k_istore (lv' := [(6, .int r_7), (5, .int r_4), (0, .ref b), (1, .ref (a_p1 0)), (2, .ref (a_p2 0)), (3, .ref (a_p3 0)), (4, .int v4)]) E rfl hl dL_law_1987 (by decide) rfl (fun ls hl => ?_)
  refine k_aload_n E hl 4 dL_law_1989 rfl ?_
  obtain ⟨r_8, hg, hf⟩ := ob hf
  refine k_callVi (As := []) (rest := []) (ws2 := fun u => (List.flatten [wMCo k a_p1 (a_p1in 0) (a_p1ou 0) (a_p1ru 0) (a_p1no 0) (a_p1fo 0) (a_p1rd 0) (a_p1pa 0) (svV sa_0 so_0) p1_0, wBytes k a_p1in 600 p1in_0, wBytes k a_p1ou 1024 p1ou_0, wRules k a_p1ru p1ru_0, wCourt k a_p1no p1no_0, wCourt k a_p1fo p1fo_2, wReader k a_p1rd (a_p1in 0) (a_p1fo 0) (a_p1rr 0) p1rd_0, wRules k a_p1rr p1rr_0, wPast k a_p1pa pp_0 p1pa_0, wModel k a_p2 p2_6, wJArr k a_p3 1 p3_3] ++ savW k sa_0 so_0) ++ poolW k pp_0 p1pa_0.2) (c_X9_thrown n l k a_p2 p2_6 r_8 hg) E vl_L_152 dL_law_1990 rfl (posOf [1, 2, 2, 3, 12, 12, 1, 3, 2, 13, 1] [9]) 7 38 hW hA hl rfl (law_map (ln := [1, 2, 2, 3, 12, 12, 1, 3, 2, 13, 1]) (is := [9]) (cs := [wModel k a_p2 p2_6]) (fl1 _) rfl (by decide) rfl) rfl rfl ⟨Nat.le_of_ble_eq_true rfl, Nat.le_of_ble_eq_true rfl⟩ ⟨by show _ ≤ 601024; omega, by show _ ≤ 7293034; omega⟩ (Nat.le_of_ble_eq_true rfl) rfl (fun _ => rfl) (fun u => law_put (ln := [1, 2, 2, 3, 12, 12, 1, 3, 2, 13, 1]) (is := [9]) (cs0 := [wModel k a_p2 p2_6]) (cs := [wModel k a_p2 p2_6]) (fl1 _) rfl (by decide) rfl rfl) (fun r u H locs hp hW => ?_)
  cases hp
  have hW : WD k A s.heap ((List.flatten [wMCo k a_p1 (a_p1in 0) (a_p1ou 0) (a_p1ru 0) (a_p1no 0) (a_p1fo 0) (a_p1rd 0) (a_p1pa 0) (svV sa_0 so_0) p1_0, wBytes k a_p1in 600 p1in_0, wBytes k a_p1ou 1024 p1ou_0, wRules k a_p1ru p1ru_0, wCourt k a_p1no p1no_0, wCourt k a_p1fo p1fo_2, wReader k a_p1rd (a_p1in 0) (a_p1fo 0) (a_p1rr 0) p1rd_0, wRules k a_p1rr p1rr_0, wPast k a_p1pa pp_0 p1pa_0, wModel k a_p2 p2_6, wJArr k a_p3 1 p3_3] ++ savW k sa_0 so_0) ++ poolW k pp_0 p1pa_0.2) H locs := hW
  refine k_iload E hl 1 dL_law_1993 rfl ?_
  refine lv_icmp_eq (tgt := 2000) E.hx E.hb dL_law_1995 (by decide) (fun hc => ?_) (fun hc => ?_)
  · have hf := oT hc hf
    refine k_iload E hl 1 dL_law_2000 rfl ?_
    refine lv_if_ne (tgt := 2017) E.hx E.hb dL_law_2002 (by decide) (fun hc => ?_) (fun hc => ?_)
    · have hf := oF hc hf
      refine lv_goto (tgt := 2474) E.hx E.hb dL_law_2017 (by decide) ?_
      exact hgo pp_0 sa_0 _ _ _ _ _ (by omega) (by omega) (by cases hf; exact hW) (lv_sub hl [2, 3, 4, 5, 6] rfl)
    · have hf := oT hc hf
      refine k_aload_n E hl 5 dL_law_2005 rfl ?_
      refine lv_iconst (v := (0 : Int32)) E.hx E.hb dL_law_2006 ic_0 ?_
      obtain ⟨hin, hf⟩ := oI hf
      obtain ⟨x_9, ex_9, hf⟩ := oL hf
      refine k_lald E hW 51 rfl hin dL_law_2007 ?_
      refine k_topl ex_9 ?_
      refine k_iload E hl 0 dL_law_2008 rfl ?_
      refine lv_i2l (v := (r_7).toInt64) E.hx E.hb dL_law_2010 rfl ?_
      refine W.lcmp E.hx E.hb dL_law_2011 ?_
      refine lv_if_eq (tgt := 2017) E.hx E.hb dL_law_2012 (by decide) (fun hc => ?_) (fun hc => ?_)
      · have hf := oT hc hf
        refine lv_goto (tgt := 2474) E.hx E.hb dL_law_2017 (by decide) ?_
        exact hgo pp_0 sa_0 _ _ _ _ _ (by omega) (by omega) (by cases hf; exact hW) (lv_sub hl [2, 3, 4, 5, 6] rfl)
      · have hf := oF hc hf
        refine lv_iconst (v := (0 : Int32)) E.hx E.hb dL_law_2015 ic_0 ?_
        exact o0 hf
  · have hf := oF hc hf
    refine lv_iconst (v := (0 : Int32)) E.hx E.hb dL_law_1998 ic_0 ?_
    exact o0 hf
def f_law_38 (n : Nat) (L : Nat) (xs : Nat → Int32) (v4 : Int32) (sv_0 : Value) (p1_0 : OS) (p1in_0 : OS) (p1ou_0 : OS) (p1ru_0 : OS) (p1no_0 : OS) (p1fo_0 : OS) (p1rd_0 : OS) (p1rr_0 : OS) (p1pa_0 : PS) (p2_0 : OS) (p3_0 : Nat → Int64) (so_0 : Option OS) : Option LST :=
  gI L (v4 + (1 : Int32)) (Let (xs (v4 + (1 : Int32)).toNatClampNeg) (fun x_1 : Int32 =>
  bnd3 (f_L_freeIn n sv_0 p1_0 p1ru_0 p1no_0 p1fo_0 1 p3_0 x_1) (fun (p1fo_2 : OS) (p3_3 : Nat → Int64) (r_4 : Int32) =>
  gI L (v4 + (1 : Int32)) (Let (xs (v4 + (1 : Int32)).toNatClampNeg) (fun x_5 : Int32 =>
  bnd2 (f_X9_freeIn n p2_0 x_5) (fun (p2_6 : OS) (r_7 : Int32) =>
  bnd (f_X9_thrown n p2_6) (fun (r_8 : Int32) =>
  if r_8 = r_4 then (
  if r_4 = 0 then (
  gI 1 (0 : Int32) (Let (p3_3 (0 : Int32).toNatClampNeg) (fun x_9 : Int64 =>
  if (lg_cmp x_9 ((r_7).toInt64)) = 0 then (
  some (p1_0, p1in_0, p1ou_0, p1ru_0, p1no_0, p1fo_2, p1rd_0, p1rr_0, p1pa_0, p2_6, p3_3, so_0)) else (
  none)))) else (
  some (p1_0, p1in_0, p1ou_0, p1ru_0, p1no_0, p1fo_2, p1rd_0, p1rr_0, p1pa_0, p2_6, p3_3, so_0))) else (
  none))))))))
set_option maxHeartbeats 4000000 in
set_option maxRecDepth 100000 in
theorem c_law_38 {p : Program} {l : Launch} {e : Env} {s : State} {m : MethodId} {below : List Frame} {meth : Method} {c : Code} {A : Nat → Prop} {Q : State → Prop} {b L : Nat} {xs : Nat → Int32} {k : KT} (n : Nat) (hE : EH k) (hx : XH l k) (hN : CCH k) (E : E0 p s m c cL_law 9 RL k A) (hX : va_X b L xs s s.heap) (hbl : b < s.heap.size) (hbA : ¬ A b) (hA : ∀ q : Nat, s.heap.size ≤ q → A q) (a_p1 : Nat → Nat) (a_p1in : Nat → Nat) (a_p1ou : Nat → Nat) (a_p1ru : Nat → Nat) (a_p1no : Nat → Nat) (a_p1fo : Nat → Nat) (a_p1rd : Nat → Nat) (a_p1rr : Nat → Nat) (a_p1pa : Nat → Nat) (a_p2 : Nat → Nat) (a_p3 : Nat → Nat) (pp_0 : Nat → Nat → Nat) (sa_0 : Nat → Nat) (v4 : Int32) (p1_0 : OS) (p1in_0 : OS) (p1ou_0 : OS) (p1ru_0 : OS) (p1no_0 : OS) (p1fo_0 : OS) (p1rd_0 : OS) (p1rr_0 : OS) (p1pa_0 : PS) (p2_0 : OS) (p3_0 : Nat → Int64) (so_0 : Option OS) (res : LST) (hf : f_law_38 n L xs v4 (svV sa_0 so_0) p1_0 p1in_0 p1ou_0 p1ru_0 p1no_0 p1fo_0 p1rd_0 p1rr_0 p1pa_0 p2_0 p3_0 so_0 = some res)
    (H : Heap) (locs : List Loc) (ls : Array Slot) (c0 s0 : Nat) (hc0 : c0 + 40 ≤ 601024) (hs0 : s0 + 8000 ≤ 7293034) (hW : WD k A s.heap ((List.flatten [wMCo k a_p1 (a_p1in 0) (a_p1ou 0) (a_p1ru 0) (a_p1no 0) (a_p1fo 0) (a_p1rd 0) (a_p1pa 0) (svV sa_0 so_0) p1_0, wBytes k a_p1in 600 p1in_0, wBytes k a_p1ou 1024 p1ou_0, wRules k a_p1ru p1ru_0, wCourt k a_p1no p1no_0, wCourt k a_p1fo p1fo_0, wReader k a_p1rd (a_p1in 0) (a_p1fo 0) (a_p1rr 0) p1rd_0, wRules k a_p1rr p1rr_0, wPast k a_p1pa pp_0 p1pa_0, wModel k a_p2 p2_0, wJArr k a_p3 1 p3_0] ++ savW k sa_0 so_0) ++ poolW k pp_0 p1pa_0.2) H locs) (hl : lv_has ls 9 [(0, .ref b), (1, .ref (a_p1 0)), (2, .ref (a_p2 0)), (3, .ref (a_p3 0)), (4, .int v4)])
    (hgo : ∀ (pp : Nat → Nat → Nat) (sa : Nat → Nat) (H : Heap) (locs : List Loc) (ls : Array Slot) (cells slots : Nat), cells ≤ c0 + 40 → slots ≤ s0 + 8000 → WD k A s.heap ((List.flatten [wMCo k a_p1 (a_p1in 0) (a_p1ou 0) (a_p1ru 0) (a_p1no 0) (a_p1fo 0) (a_p1rd 0) (a_p1pa 0) (svV sa (res.2.2.2.2.2.2.2.2.2.2.2)) (res.1), wBytes k a_p1in 600 (res.2.1), wBytes k a_p1ou 1024 (res.2.2.1), wRules k a_p1ru (res.2.2.2.1), wCourt k a_p1no (res.2.2.2.2.1), wCourt k a_p1fo (res.2.2.2.2.2.1), wReader k a_p1rd (a_p1in 0) (a_p1fo 0) (a_p1rr 0) (res.2.2.2.2.2.2.1), wRules k a_p1rr (res.2.2.2.2.2.2.2.1), wPast k a_p1pa pp (res.2.2.2.2.2.2.2.2.1), wModel k a_p2 (res.2.2.2.2.2.2.2.2.2.1), wJArr k a_p3 1 (res.2.2.2.2.2.2.2.2.2.2.1)] ++ savW k sa (res.2.2.2.2.2.2.2.2.2.2.2)) ++ poolW k pp (res.2.2.2.2.2.2.2.2.1).2) H locs → lv_has ls 9 [(0, .ref b), (1, .ref (a_p1 0)), (2, .ref (a_p2 0)), (3, .ref (a_p3 0)), (4, .int v4)] → W p l e room_1 s m #[Value.ref b] below meth c H locs cells slots Q (F0 m 2474 ls [])) :
    W p l e room_1 s m #[Value.ref b] below meth c H locs c0 s0 Q (F0 m 2020 ls []) := by
  unfold f_law_38 at hf
  refine k_aload_n E hl 1 dL_law_2020 rfl ?_
  refine k_aload_n E hl 0 dL_law_2021 rfl ?_
  refine k_iload E hl 4 dL_law_2022 rfl ?_
  refine lv_iconst (v := (1 : Int32)) E.hx E.hb dL_law_2024 ic_1 ?_
  refine lv_iadd E.hx E.hb dL_law_2025 ?_
  obtain ⟨hin, hf⟩ := oI hf
  obtain ⟨x_1, ex_1, hf⟩ := oL hf
  refine va_sld E.hx E.hb hX hbl hbA hW.2.2 hin dL_law_2026 ?_
  refine k_topi ex_1 ?_
  refine k_aload_n E hl 3 dL_law_2027 rfl ?_
  obtain ⟨p1fo_2, p3_3, r_4, hg, hf⟩ := ob3 hf
  refine k_callSXi (As := [.ref (a_p1 0), .int x_1, .ref (a_p3 0)]) (rest := []) (ws2 := fun u => (List.flatten [wMCo k a_p1 (a_p1in 0) (a_p1ou 0) (a_p1ru 0) (a_p1no 0) (a_p1fo 0) (a_p1rd 0) (a_p1pa 0) (svV sa_0 so_0) p1_0, wBytes k a_p1in 600 p1in_0, wBytes k a_p1ou 1024 p1ou_0, wRules k a_p1ru p1ru_0, wCourt k a_p1no p1no_0, wCourt k a_p1fo (u.1), wReader k a_p1rd (a_p1in 0) (a_p1fo 0) (a_p1rr 0) p1rd_0, wRules k a_p1rr p1rr_0, wPast k a_p1pa pp_0 p1pa_0, wModel k a_p2 p2_0, wJArr k a_p3 1 (u.2)] ++ savW k sa_0 so_0) ++ poolW k pp_0 p1pa_0.2) (c_L_freeIn n l k hN hx a_p1 a_p1in a_p1ou a_p1ru a_p1no a_p1fo a_p1rd a_p1pa a_p3 (svV sa_0 so_0) p1_0 p1ru_0 p1no_0 p1fo_0 1 p3_0 x_1 (p1fo_2, p3_3, r_4) hg) E sw_258 rfl dL_law_2028 rfl (posOf [1, 2, 2, 3, 12, 12, 1, 3, 2, 13, 1] [0, 3, 4, 5, 10]) hW hA hl rfl (law_map (ln := [1, 2, 2, 3, 12, 12, 1, 3, 2, 13, 1]) (is := [0, 3, 4, 5, 10]) (cs := [wMCo k a_p1 (a_p1in 0) (a_p1ou 0) (a_p1ru 0) (a_p1no 0) (a_p1fo 0) (a_p1rd 0) (a_p1pa 0) (svV sa_0 so_0) p1_0, wRules k a_p1ru p1ru_0, wCourt k a_p1no p1no_0, wCourt k a_p1fo p1fo_0, wJArr k a_p3 1 p3_0]) (fl5 _ _ _ _ _) rfl (by decide) rfl) ⟨Nat.le_of_ble_eq_true rfl, Nat.le_of_ble_eq_true rfl⟩ ⟨by show _ ≤ 601024; omega, by show _ ≤ 7293034; omega⟩ (Nat.le_of_ble_eq_true rfl) rfl (fun _ => rfl) (fun u => law_put (ln := [1, 2, 2, 3, 12, 12, 1, 3, 2, 13, 1]) (is := [0, 3, 4, 5, 10]) (cs0 := [wMCo k a_p1 (a_p1in 0) (a_p1ou 0) (a_p1ru 0) (a_p1no 0) (a_p1fo 0) (a_p1rd 0) (a_p1pa 0) (svV sa_0 so_0) p1_0, wRules k a_p1ru p1ru_0, wCourt k a_p1no p1no_0, wCourt k a_p1fo p1fo_0, wJArr k a_p3 1 p3_0]) (cs := [wMCo k a_p1 (a_p1in 0) (a_p1ou 0) (a_p1ru 0) (a_p1no 0) (a_p1fo 0) (a_p1rd 0) (a_p1pa 0) (svV sa_0 so_0) p1_0, wRules k a_p1ru p1ru_0, wCourt k a_p1no p1no_0, wCourt k a_p1fo (u.1), wJArr k a_p3 1 (u.2)]) (fl5 _ _ _ _ _) rfl (by decide) rfl rfl) (fun r u H locs hp hW => ?_)
  obtain ⟨u0, u1⟩ := u
  try dsimp only at hp
  cases hp
  have hW : WD k A s.heap ((List.flatten [wMCo k a_p1 (a_p1in 0) (a_p1ou 0) (a_p1ru 0) (a_p1no 0) (a_p1fo 0) (a_p1rd 0) (a_p1pa 0) (svV sa_0 so_0) p1_0, wBytes k a_p1in 600 p1in_0, wBytes k a_p1ou 1024 p1ou_0, wRules k a_p1ru p1ru_0, wCourt k a_p1no p1no_0, wCourt k a_p1fo p1fo_2, wReader k a_p1rd (a_p1in 0) (a_p1fo 0) (a_p1rr 0) p1rd_0, wRules k a_p1rr p1rr_0, wPast k a_p1pa pp_0 p1pa_0, wModel k a_p2 p2_0, wJArr k a_p3 1 p3_3] ++ savW k sa_0 so_0) ++ poolW k pp_0 p1pa_0.2) H locs := hW
  refine k_istore (lv' := [(5, .int r_4), (0, .ref b), (1, .ref (a_p1 0)), (2, .ref (a_p2 0)), (3, .ref (a_p3 0)), (4, .int v4)]) E rfl hl dL_law_2031 (by decide) rfl (fun ls hl => ?_)
  refine k_aload_n E hl 3 dL_law_2033 rfl ?_
  refine k_aload_n E hl 1 dL_law_2034 rfl ?_
  refine k_iload E hl 5 dL_law_2035 rfl ?_
  refine lv_iconst (v := (1 : Int32)) E.hx E.hb dL_law_2037 ic_1 ?_
  refine lv_iadd E.hx E.hb dL_law_2038 ?_
  obtain ⟨hin, hf⟩ := oI hf
  obtain ⟨x_5, ex_5, hf⟩ := oL hf
  refine va_sld E.hx E.hb hX hbl hbA hW.2.2 hin dL_law_2039 ?_
  refine k_topi ex_5 ?_
  obtain ⟨p2_6, r_7, hg, hf⟩ := ob2 hf
  refine k_callVi (As := [.int x_5]) (rest := []) (ws2 := fun u => (List.flatten [wMCo k a_p1 (a_p1in 0) (a_p1ou 0) (a_p1ru 0) (a_p1no 0) (a_p1fo 0) (a_p1rd 0) (a_p1pa 0) (svV sa_0 so_0) p1_0, wBytes k a_p1in 600 p1in_0, wBytes k a_p1ou 1024 p1ou_0, wRules k a_p1ru p1ru_0, wCourt k a_p1no p1no_0, wCourt k a_p1fo p1fo_2, wReader k a_p1rd (a_p1in 0) (a_p1fo 0) (a_p1rr 0) p1rd_0, wRules k a_p1rr p1rr_0, wPast k a_p1pa pp_0 p1pa_0, wModel k a_p2 (u), wJArr k a_p3 1 p3_3] ++ savW k sa_0 so_0) ++ poolW k pp_0 p1pa_0.2) (c_X9_freeIn n l k a_p2 p2_0 x_5 (p2_6, r_7) hg) E vl_L_260 dL_law_2040 rfl (posOf [1, 2, 2, 3, 12, 12, 1, 3, 2, 13, 1] [9]) 7 38 hW hA hl rfl (law_map (ln := [1, 2, 2, 3, 12, 12, 1, 3, 2, 13, 1]) (is := [9]) (cs := [wModel k a_p2 p2_0]) (fl1 _) rfl (by decide) rfl) rfl rfl ⟨Nat.le_of_ble_eq_true rfl, Nat.le_of_ble_eq_true rfl⟩ ⟨by show _ ≤ 601024; omega, by show _ ≤ 7293034; omega⟩ (Nat.le_of_ble_eq_true rfl) rfl (fun _ => rfl) (fun u => law_put (ln := [1, 2, 2, 3, 12, 12, 1, 3, 2, 13, 1]) (is := [9]) (cs0 := [wModel k a_p2 p2_0]) (cs := [wModel k a_p2 (u)]) (fl1 _) rfl (by decide) rfl rfl) (fun r u H locs hp hW => ?_)
  cases hp
  have hW : WD k A s.heap ((List.flatten [wMCo k a_p1 (a_p1in 0) (a_p1ou 0) (a_p1ru 0) (a_p1no 0) (a_p1fo 0) (a_p1rd 0) (a_p1pa 0) (svV sa_0 so_0) p1_0, wBytes k a_p1in 600 p1in_0, wBytes k a_p1ou 1024 p1ou_0, wRules k a_p1ru p1ru_0, wCourt k a_p1no p1no_0, wCourt k a_p1fo p1fo_2, wReader k a_p1rd (a_p1in 0) (a_p1fo 0) (a_p1rr 0) p1rd_0, wRules k a_p1rr p1rr_0, wPast k a_p1pa pp_0 p1pa_0, wModel k a_p2 p2_6, wJArr k a_p3 1 p3_3] ++ savW k sa_0 so_0) ++ poolW k pp_0 p1pa_0.2) H locs := hW
  refine k_istore (lv' := [(6, .int r_7), (5, .int r_4), (0, .ref b), (1, .ref (a_p1 0)), (2, .ref (a_p2 0)), (3, .ref (a_p3 0)), (4, .int v4)]) E rfl hl dL_law_2043 (by decide) rfl (fun ls hl => ?_)
  refine k_aload_n E hl 4 dL_law_2045 rfl ?_
  obtain ⟨r_8, hg, hf⟩ := ob hf
  refine k_callVi (As := []) (rest := []) (ws2 := fun u => (List.flatten [wMCo k a_p1 (a_p1in 0) (a_p1ou 0) (a_p1ru 0) (a_p1no 0) (a_p1fo 0) (a_p1rd 0) (a_p1pa 0) (svV sa_0 so_0) p1_0, wBytes k a_p1in 600 p1in_0, wBytes k a_p1ou 1024 p1ou_0, wRules k a_p1ru p1ru_0, wCourt k a_p1no p1no_0, wCourt k a_p1fo p1fo_2, wReader k a_p1rd (a_p1in 0) (a_p1fo 0) (a_p1rr 0) p1rd_0, wRules k a_p1rr p1rr_0, wPast k a_p1pa pp_0 p1pa_0, wModel k a_p2 p2_6, wJArr k a_p3 1 p3_3] ++ savW k sa_0 so_0) ++ poolW k pp_0 p1pa_0.2) (c_X9_thrown n l k a_p2 p2_6 r_8 hg) E vl_L_152 dL_law_2046 rfl (posOf [1, 2, 2, 3, 12, 12, 1, 3, 2, 13, 1] [9]) 7 38 hW hA hl rfl (law_map (ln := [1, 2, 2, 3, 12, 12, 1, 3, 2, 13, 1]) (is := [9]) (cs := [wModel k a_p2 p2_6]) (fl1 _) rfl (by decide) rfl) rfl rfl ⟨Nat.le_of_ble_eq_true rfl, Nat.le_of_ble_eq_true rfl⟩ ⟨by show _ ≤ 601024; omega, by show _ ≤ 7293034; omega⟩ (Nat.le_of_ble_eq_true rfl) rfl (fun _ => rfl) (fun u => law_put (ln := [1, 2, 2, 3, 12, 12, 1, 3, 2, 13, 1]) (is := [9]) (cs0 := [wModel k a_p2 p2_6]) (cs := [wModel k a_p2 p2_6]) (fl1 _) rfl (by decide) rfl rfl) (fun r u H locs hp hW => ?_)
  cases hp
  have hW : WD k A s.heap ((List.flatten [wMCo k a_p1 (a_p1in 0) (a_p1ou 0) (a_p1ru 0) (a_p1no 0) (a_p1fo 0) (a_p1rd 0) (a_p1pa 0) (svV sa_0 so_0) p1_0, wBytes k a_p1in 600 p1in_0, wBytes k a_p1ou 1024 p1ou_0, wRules k a_p1ru p1ru_0, wCourt k a_p1no p1no_0, wCourt k a_p1fo p1fo_2, wReader k a_p1rd (a_p1in 0) (a_p1fo 0) (a_p1rr 0) p1rd_0, wRules k a_p1rr p1rr_0, wPast k a_p1pa pp_0 p1pa_0, wModel k a_p2 p2_6, wJArr k a_p3 1 p3_3] ++ savW k sa_0 so_0) ++ poolW k pp_0 p1pa_0.2) H locs := hW
  refine k_iload E hl 1 dL_law_2049 rfl ?_
  refine lv_icmp_eq (tgt := 2056) E.hx E.hb dL_law_2051 (by decide) (fun hc => ?_) (fun hc => ?_)
  · have hf := oT hc hf
    refine k_iload E hl 1 dL_law_2056 rfl ?_
    refine lv_if_ne (tgt := 2073) E.hx E.hb dL_law_2058 (by decide) (fun hc => ?_) (fun hc => ?_)
    · have hf := oF hc hf
      refine lv_goto (tgt := 2474) E.hx E.hb dL_law_2073 (by decide) ?_
      exact hgo pp_0 sa_0 _ _ _ _ _ (by omega) (by omega) (by cases hf; exact hW) (lv_sub hl [2, 3, 4, 5, 6] rfl)
    · have hf := oT hc hf
      refine k_aload_n E hl 5 dL_law_2061 rfl ?_
      refine lv_iconst (v := (0 : Int32)) E.hx E.hb dL_law_2062 ic_0 ?_
      obtain ⟨hin, hf⟩ := oI hf
      obtain ⟨x_9, ex_9, hf⟩ := oL hf
      refine k_lald E hW 51 rfl hin dL_law_2063 ?_
      refine k_topl ex_9 ?_
      refine k_iload E hl 0 dL_law_2064 rfl ?_
      refine lv_i2l (v := (r_7).toInt64) E.hx E.hb dL_law_2066 rfl ?_
      refine W.lcmp E.hx E.hb dL_law_2067 ?_
      refine lv_if_eq (tgt := 2073) E.hx E.hb dL_law_2068 (by decide) (fun hc => ?_) (fun hc => ?_)
      · have hf := oT hc hf
        refine lv_goto (tgt := 2474) E.hx E.hb dL_law_2073 (by decide) ?_
        exact hgo pp_0 sa_0 _ _ _ _ _ (by omega) (by omega) (by cases hf; exact hW) (lv_sub hl [2, 3, 4, 5, 6] rfl)
      · have hf := oF hc hf
        refine lv_iconst (v := (0 : Int32)) E.hx E.hb dL_law_2071 ic_0 ?_
        exact o0 hf
  · have hf := oF hc hf
    refine lv_iconst (v := (0 : Int32)) E.hx E.hb dL_law_2054 ic_0 ?_
    exact o0 hf
def f_law_39 (n : Nat) (L : Nat) (xs : Nat → Int32) (v4 : Int32) (sv_0 : Value) (p1_0 : OS) (p1in_0 : OS) (p1ou_0 : OS) (p1ru_0 : OS) (p1no_0 : OS) (p1fo_0 : OS) (p1rd_0 : OS) (p1rr_0 : OS) (p1pa_0 : PS) (p2_0 : OS) (p3_0 : Nat → Int64) (so_0 : Option OS) : Option LST :=
  gI L (v4 + (1 : Int32)) (Let (xs (v4 + (1 : Int32)).toNatClampNeg) (fun x_1 : Int32 =>
  gI L (v4 + (2 : Int32)) (Let (xs (v4 + (2 : Int32)).toNatClampNeg) (fun x_2 : Int32 =>
  gI L (v4 + (3 : Int32)) (Let (xs (v4 + (3 : Int32)).toNatClampNeg) (fun x_3 : Int32 =>
  bnd3 (f_L_processIn n sv_0 p1_0 p1ru_0 p1no_0 p1fo_0 1 p3_0 x_1 x_2 x_3) (fun (p1fo_4 : OS) (p3_5 : Nat → Int64) (r_6 : Int32) =>
  gI L (v4 + (1 : Int32)) (Let (xs (v4 + (1 : Int32)).toNatClampNeg) (fun x_7 : Int32 =>
  gI L (v4 + (2 : Int32)) (Let (xs (v4 + (2 : Int32)).toNatClampNeg) (fun x_8 : Int32 =>
  gI L (v4 + (3 : Int32)) (Let (xs (v4 + (3 : Int32)).toNatClampNeg) (fun x_9 : Int32 =>
  bnd2 (f_X9_processIn n p2_0 x_7 x_8 x_9) (fun (p2_10 : OS) (r_11 : Int32) =>
  bnd (f_X9_thrown n p2_10) (fun (r_12 : Int32) =>
  if r_12 = r_6 then (
  if r_6 = 0 then (
  gI 1 (0 : Int32) (Let (p3_5 (0 : Int32).toNatClampNeg) (fun x_13 : Int64 =>
  if (lg_cmp x_13 ((r_11).toInt64)) = 0 then (
  some (p1_0, p1in_0, p1ou_0, p1ru_0, p1no_0, p1fo_4, p1rd_0, p1rr_0, p1pa_0, p2_10, p3_5, so_0)) else (
  none)))) else (
  some (p1_0, p1in_0, p1ou_0, p1ru_0, p1no_0, p1fo_4, p1rd_0, p1rr_0, p1pa_0, p2_10, p3_5, so_0))) else (
  none))))))))))))))))
set_option maxHeartbeats 4000000 in
set_option maxRecDepth 100000 in
theorem c_law_39 {p : Program} {l : Launch} {e : Env} {s : State} {m : MethodId} {below : List Frame} {meth : Method} {c : Code} {A : Nat → Prop} {Q : State → Prop} {b L : Nat} {xs : Nat → Int32} {k : KT} (n : Nat) (hE : EH k) (hx : XH l k) (hN : CCH k) (E : E0 p s m c cL_law 9 RL k A) (hX : va_X b L xs s s.heap) (hbl : b < s.heap.size) (hbA : ¬ A b) (hA : ∀ q : Nat, s.heap.size ≤ q → A q) (a_p1 : Nat → Nat) (a_p1in : Nat → Nat) (a_p1ou : Nat → Nat) (a_p1ru : Nat → Nat) (a_p1no : Nat → Nat) (a_p1fo : Nat → Nat) (a_p1rd : Nat → Nat) (a_p1rr : Nat → Nat) (a_p1pa : Nat → Nat) (a_p2 : Nat → Nat) (a_p3 : Nat → Nat) (pp_0 : Nat → Nat → Nat) (sa_0 : Nat → Nat) (v4 : Int32) (p1_0 : OS) (p1in_0 : OS) (p1ou_0 : OS) (p1ru_0 : OS) (p1no_0 : OS) (p1fo_0 : OS) (p1rd_0 : OS) (p1rr_0 : OS) (p1pa_0 : PS) (p2_0 : OS) (p3_0 : Nat → Int64) (so_0 : Option OS) (res : LST) (hf : f_law_39 n L xs v4 (svV sa_0 so_0) p1_0 p1in_0 p1ou_0 p1ru_0 p1no_0 p1fo_0 p1rd_0 p1rr_0 p1pa_0 p2_0 p3_0 so_0 = some res)
    (H : Heap) (locs : List Loc) (ls : Array Slot) (c0 s0 : Nat) (hc0 : c0 + 40 ≤ 601024) (hs0 : s0 + 8000 ≤ 7293034) (hW : WD k A s.heap ((List.flatten [wMCo k a_p1 (a_p1in 0) (a_p1ou 0) (a_p1ru 0) (a_p1no 0) (a_p1fo 0) (a_p1rd 0) (a_p1pa 0) (svV sa_0 so_0) p1_0, wBytes k a_p1in 600 p1in_0, wBytes k a_p1ou 1024 p1ou_0, wRules k a_p1ru p1ru_0, wCourt k a_p1no p1no_0, wCourt k a_p1fo p1fo_0, wReader k a_p1rd (a_p1in 0) (a_p1fo 0) (a_p1rr 0) p1rd_0, wRules k a_p1rr p1rr_0, wPast k a_p1pa pp_0 p1pa_0, wModel k a_p2 p2_0, wJArr k a_p3 1 p3_0] ++ savW k sa_0 so_0) ++ poolW k pp_0 p1pa_0.2) H locs) (hl : lv_has ls 9 [(0, .ref b), (1, .ref (a_p1 0)), (2, .ref (a_p2 0)), (3, .ref (a_p3 0)), (4, .int v4)])
    (hgo : ∀ (pp : Nat → Nat → Nat) (sa : Nat → Nat) (H : Heap) (locs : List Loc) (ls : Array Slot) (cells slots : Nat), cells ≤ c0 + 40 → slots ≤ s0 + 8000 → WD k A s.heap ((List.flatten [wMCo k a_p1 (a_p1in 0) (a_p1ou 0) (a_p1ru 0) (a_p1no 0) (a_p1fo 0) (a_p1rd 0) (a_p1pa 0) (svV sa (res.2.2.2.2.2.2.2.2.2.2.2)) (res.1), wBytes k a_p1in 600 (res.2.1), wBytes k a_p1ou 1024 (res.2.2.1), wRules k a_p1ru (res.2.2.2.1), wCourt k a_p1no (res.2.2.2.2.1), wCourt k a_p1fo (res.2.2.2.2.2.1), wReader k a_p1rd (a_p1in 0) (a_p1fo 0) (a_p1rr 0) (res.2.2.2.2.2.2.1), wRules k a_p1rr (res.2.2.2.2.2.2.2.1), wPast k a_p1pa pp (res.2.2.2.2.2.2.2.2.1), wModel k a_p2 (res.2.2.2.2.2.2.2.2.2.1), wJArr k a_p3 1 (res.2.2.2.2.2.2.2.2.2.2.1)] ++ savW k sa (res.2.2.2.2.2.2.2.2.2.2.2)) ++ poolW k pp (res.2.2.2.2.2.2.2.2.1).2) H locs → lv_has ls 9 [(0, .ref b), (1, .ref (a_p1 0)), (2, .ref (a_p2 0)), (3, .ref (a_p3 0)), (4, .int v4)] → W p l e room_1 s m #[Value.ref b] below meth c H locs cells slots Q (F0 m 2474 ls [])) :
    W p l e room_1 s m #[Value.ref b] below meth c H locs c0 s0 Q (F0 m 2076 ls []) := by
  unfold f_law_39 at hf
  refine k_aload_n E hl 1 dL_law_2076 rfl ?_
  refine k_aload_n E hl 0 dL_law_2077 rfl ?_
  refine k_iload E hl 4 dL_law_2078 rfl ?_
  refine lv_iconst (v := (1 : Int32)) E.hx E.hb dL_law_2080 ic_1 ?_
  refine lv_iadd E.hx E.hb dL_law_2081 ?_
  obtain ⟨hin, hf⟩ := oI hf
  obtain ⟨x_1, ex_1, hf⟩ := oL hf
  refine va_sld E.hx E.hb hX hbl hbA hW.2.2 hin dL_law_2082 ?_
  refine k_topi ex_1 ?_
  refine k_aload_n E hl 0 dL_law_2083 rfl ?_
  refine k_iload E hl 4 dL_law_2084 rfl ?_
  refine lv_iconst (v := (2 : Int32)) E.hx E.hb dL_law_2086 ic_2 ?_
  refine lv_iadd E.hx E.hb dL_law_2087 ?_
  obtain ⟨hin, hf⟩ := oI hf
  obtain ⟨x_2, ex_2, hf⟩ := oL hf
  refine va_sld E.hx E.hb hX hbl hbA hW.2.2 hin dL_law_2088 ?_
  refine k_topi ex_2 ?_
  refine k_aload_n E hl 0 dL_law_2089 rfl ?_
  refine k_iload E hl 4 dL_law_2090 rfl ?_
  refine lv_iconst (v := (3 : Int32)) E.hx E.hb dL_law_2092 ic_3 ?_
  refine lv_iadd E.hx E.hb dL_law_2093 ?_
  obtain ⟨hin, hf⟩ := oI hf
  obtain ⟨x_3, ex_3, hf⟩ := oL hf
  refine va_sld E.hx E.hb hX hbl hbA hW.2.2 hin dL_law_2094 ?_
  refine k_topi ex_3 ?_
  refine k_aload_n E hl 3 dL_law_2095 rfl ?_
  obtain ⟨p1fo_4, p3_5, r_6, hg, hf⟩ := ob3 hf
  refine k_callSXi (As := [.ref (a_p1 0), .int x_1, .int x_2, .int x_3, .ref (a_p3 0)]) (rest := []) (ws2 := fun u => (List.flatten [wMCo k a_p1 (a_p1in 0) (a_p1ou 0) (a_p1ru 0) (a_p1no 0) (a_p1fo 0) (a_p1rd 0) (a_p1pa 0) (svV sa_0 so_0) p1_0, wBytes k a_p1in 600 p1in_0, wBytes k a_p1ou 1024 p1ou_0, wRules k a_p1ru p1ru_0, wCourt k a_p1no p1no_0, wCourt k a_p1fo (u.1), wReader k a_p1rd (a_p1in 0) (a_p1fo 0) (a_p1rr 0) p1rd_0, wRules k a_p1rr p1rr_0, wPast k a_p1pa pp_0 p1pa_0, wModel k a_p2 p2_0, wJArr k a_p3 1 (u.2)] ++ savW k sa_0 so_0) ++ poolW k pp_0 p1pa_0.2) (c_L_processIn n l k hN hx a_p1 a_p1in a_p1ou a_p1ru a_p1no a_p1fo a_p1rd a_p1pa a_p3 (svV sa_0 so_0) p1_0 p1ru_0 p1no_0 p1fo_0 1 p3_0 x_1 x_2 x_3 (p1fo_4, p3_5, r_6) hg) E sw_261 rfl dL_law_2096 rfl (posOf [1, 2, 2, 3, 12, 12, 1, 3, 2, 13, 1] [0, 3, 4, 5, 10]) hW hA hl rfl (law_map (ln := [1, 2, 2, 3, 12, 12, 1, 3, 2, 13, 1]) (is := [0, 3, 4, 5, 10]) (cs := [wMCo k a_p1 (a_p1in 0) (a_p1ou 0) (a_p1ru 0) (a_p1no 0) (a_p1fo 0) (a_p1rd 0) (a_p1pa 0) (svV sa_0 so_0) p1_0, wRules k a_p1ru p1ru_0, wCourt k a_p1no p1no_0, wCourt k a_p1fo p1fo_0, wJArr k a_p3 1 p3_0]) (fl5 _ _ _ _ _) rfl (by decide) rfl) ⟨Nat.le_of_ble_eq_true rfl, Nat.le_of_ble_eq_true rfl⟩ ⟨by show _ ≤ 601024; omega, by show _ ≤ 7293034; omega⟩ (Nat.le_of_ble_eq_true rfl) rfl (fun _ => rfl) (fun u => law_put (ln := [1, 2, 2, 3, 12, 12, 1, 3, 2, 13, 1]) (is := [0, 3, 4, 5, 10]) (cs0 := [wMCo k a_p1 (a_p1in 0) (a_p1ou 0) (a_p1ru 0) (a_p1no 0) (a_p1fo 0) (a_p1rd 0) (a_p1pa 0) (svV sa_0 so_0) p1_0, wRules k a_p1ru p1ru_0, wCourt k a_p1no p1no_0, wCourt k a_p1fo p1fo_0, wJArr k a_p3 1 p3_0]) (cs := [wMCo k a_p1 (a_p1in 0) (a_p1ou 0) (a_p1ru 0) (a_p1no 0) (a_p1fo 0) (a_p1rd 0) (a_p1pa 0) (svV sa_0 so_0) p1_0, wRules k a_p1ru p1ru_0, wCourt k a_p1no p1no_0, wCourt k a_p1fo (u.1), wJArr k a_p3 1 (u.2)]) (fl5 _ _ _ _ _) rfl (by decide) rfl rfl) (fun r u H locs hp hW => ?_)
  obtain ⟨u0, u1⟩ := u
  try dsimp only at hp
  cases hp
  have hW : WD k A s.heap ((List.flatten [wMCo k a_p1 (a_p1in 0) (a_p1ou 0) (a_p1ru 0) (a_p1no 0) (a_p1fo 0) (a_p1rd 0) (a_p1pa 0) (svV sa_0 so_0) p1_0, wBytes k a_p1in 600 p1in_0, wBytes k a_p1ou 1024 p1ou_0, wRules k a_p1ru p1ru_0, wCourt k a_p1no p1no_0, wCourt k a_p1fo p1fo_4, wReader k a_p1rd (a_p1in 0) (a_p1fo 0) (a_p1rr 0) p1rd_0, wRules k a_p1rr p1rr_0, wPast k a_p1pa pp_0 p1pa_0, wModel k a_p2 p2_0, wJArr k a_p3 1 p3_5] ++ savW k sa_0 so_0) ++ poolW k pp_0 p1pa_0.2) H locs := hW
  refine k_istore (lv' := [(5, .int r_6), (0, .ref b), (1, .ref (a_p1 0)), (2, .ref (a_p2 0)), (3, .ref (a_p3 0)), (4, .int v4)]) E rfl hl dL_law_2099 (by decide) rfl (fun ls hl => ?_)
  refine k_aload_n E hl 3 dL_law_2101 rfl ?_
  refine k_aload_n E hl 1 dL_law_2102 rfl ?_
  refine k_iload E hl 5 dL_law_2103 rfl ?_
  refine lv_iconst (v := (1 : Int32)) E.hx E.hb dL_law_2105 ic_1 ?_
  refine lv_iadd E.hx E.hb dL_law_2106 ?_
  obtain ⟨hin, hf⟩ := oI hf
  obtain ⟨x_7, ex_7, hf⟩ := oL hf
  refine va_sld E.hx E.hb hX hbl hbA hW.2.2 hin dL_law_2107 ?_
  refine k_topi ex_7 ?_
  refine k_aload_n E hl 1 dL_law_2108 rfl ?_
  refine k_iload E hl 5 dL_law_2109 rfl ?_
  refine lv_iconst (v := (2 : Int32)) E.hx E.hb dL_law_2111 ic_2 ?_
  refine lv_iadd E.hx E.hb dL_law_2112 ?_
  obtain ⟨hin, hf⟩ := oI hf
  obtain ⟨x_8, ex_8, hf⟩ := oL hf
  refine va_sld E.hx E.hb hX hbl hbA hW.2.2 hin dL_law_2113 ?_
  refine k_topi ex_8 ?_
  refine k_aload_n E hl 1 dL_law_2114 rfl ?_
  refine k_iload E hl 5 dL_law_2115 rfl ?_
  refine lv_iconst (v := (3 : Int32)) E.hx E.hb dL_law_2117 ic_3 ?_
  refine lv_iadd E.hx E.hb dL_law_2118 ?_
  obtain ⟨hin, hf⟩ := oI hf
  obtain ⟨x_9, ex_9, hf⟩ := oL hf
  refine va_sld E.hx E.hb hX hbl hbA hW.2.2 hin dL_law_2119 ?_
  refine k_topi ex_9 ?_
  obtain ⟨p2_10, r_11, hg, hf⟩ := ob2 hf
  refine k_callVi (As := [.int x_7, .int x_8, .int x_9]) (rest := []) (ws2 := fun u => (List.flatten [wMCo k a_p1 (a_p1in 0) (a_p1ou 0) (a_p1ru 0) (a_p1no 0) (a_p1fo 0) (a_p1rd 0) (a_p1pa 0) (svV sa_0 so_0) p1_0, wBytes k a_p1in 600 p1in_0, wBytes k a_p1ou 1024 p1ou_0, wRules k a_p1ru p1ru_0, wCourt k a_p1no p1no_0, wCourt k a_p1fo p1fo_4, wReader k a_p1rd (a_p1in 0) (a_p1fo 0) (a_p1rr 0) p1rd_0, wRules k a_p1rr p1rr_0, wPast k a_p1pa pp_0 p1pa_0, wModel k a_p2 (u), wJArr k a_p3 1 p3_5] ++ savW k sa_0 so_0) ++ poolW k pp_0 p1pa_0.2) (c_X9_processIn n l k a_p2 p2_0 x_7 x_8 x_9 (p2_10, r_11) hg) E vl_L_263 dL_law_2120 rfl (posOf [1, 2, 2, 3, 12, 12, 1, 3, 2, 13, 1] [9]) 7 38 hW hA hl rfl (law_map (ln := [1, 2, 2, 3, 12, 12, 1, 3, 2, 13, 1]) (is := [9]) (cs := [wModel k a_p2 p2_0]) (fl1 _) rfl (by decide) rfl) rfl rfl ⟨Nat.le_of_ble_eq_true rfl, Nat.le_of_ble_eq_true rfl⟩ ⟨by show _ ≤ 601024; omega, by show _ ≤ 7293034; omega⟩ (Nat.le_of_ble_eq_true rfl) rfl (fun _ => rfl) (fun u => law_put (ln := [1, 2, 2, 3, 12, 12, 1, 3, 2, 13, 1]) (is := [9]) (cs0 := [wModel k a_p2 p2_0]) (cs := [wModel k a_p2 (u)]) (fl1 _) rfl (by decide) rfl rfl) (fun r u H locs hp hW => ?_)
  cases hp
  have hW : WD k A s.heap ((List.flatten [wMCo k a_p1 (a_p1in 0) (a_p1ou 0) (a_p1ru 0) (a_p1no 0) (a_p1fo 0) (a_p1rd 0) (a_p1pa 0) (svV sa_0 so_0) p1_0, wBytes k a_p1in 600 p1in_0, wBytes k a_p1ou 1024 p1ou_0, wRules k a_p1ru p1ru_0, wCourt k a_p1no p1no_0, wCourt k a_p1fo p1fo_4, wReader k a_p1rd (a_p1in 0) (a_p1fo 0) (a_p1rr 0) p1rd_0, wRules k a_p1rr p1rr_0, wPast k a_p1pa pp_0 p1pa_0, wModel k a_p2 p2_10, wJArr k a_p3 1 p3_5] ++ savW k sa_0 so_0) ++ poolW k pp_0 p1pa_0.2) H locs := hW
  refine k_istore (lv' := [(6, .int r_11), (5, .int r_6), (0, .ref b), (1, .ref (a_p1 0)), (2, .ref (a_p2 0)), (3, .ref (a_p3 0)), (4, .int v4)]) E rfl hl dL_law_2123 (by decide) rfl (fun ls hl => ?_)
  refine k_aload_n E hl 4 dL_law_2125 rfl ?_
  obtain ⟨r_12, hg, hf⟩ := ob hf
  refine k_callVi (As := []) (rest := []) (ws2 := fun u => (List.flatten [wMCo k a_p1 (a_p1in 0) (a_p1ou 0) (a_p1ru 0) (a_p1no 0) (a_p1fo 0) (a_p1rd 0) (a_p1pa 0) (svV sa_0 so_0) p1_0, wBytes k a_p1in 600 p1in_0, wBytes k a_p1ou 1024 p1ou_0, wRules k a_p1ru p1ru_0, wCourt k a_p1no p1no_0, wCourt k a_p1fo p1fo_4, wReader k a_p1rd (a_p1in 0) (a_p1fo 0) (a_p1rr 0) p1rd_0, wRules k a_p1rr p1rr_0, wPast k a_p1pa pp_0 p1pa_0, wModel k a_p2 p2_10, wJArr k a_p3 1 p3_5] ++ savW k sa_0 so_0) ++ poolW k pp_0 p1pa_0.2) (c_X9_thrown n l k a_p2 p2_10 r_12 hg) E vl_L_152 dL_law_2126 rfl (posOf [1, 2, 2, 3, 12, 12, 1, 3, 2, 13, 1] [9]) 7 38 hW hA hl rfl (law_map (ln := [1, 2, 2, 3, 12, 12, 1, 3, 2, 13, 1]) (is := [9]) (cs := [wModel k a_p2 p2_10]) (fl1 _) rfl (by decide) rfl) rfl rfl ⟨Nat.le_of_ble_eq_true rfl, Nat.le_of_ble_eq_true rfl⟩ ⟨by show _ ≤ 601024; omega, by show _ ≤ 7293034; omega⟩ (Nat.le_of_ble_eq_true rfl) rfl (fun _ => rfl) (fun u => law_put (ln := [1, 2, 2, 3, 12, 12, 1, 3, 2, 13, 1]) (is := [9]) (cs0 := [wModel k a_p2 p2_10]) (cs := [wModel k a_p2 p2_10]) (fl1 _) rfl (by decide) rfl rfl) (fun r u H locs hp hW => ?_)
  cases hp
  have hW : WD k A s.heap ((List.flatten [wMCo k a_p1 (a_p1in 0) (a_p1ou 0) (a_p1ru 0) (a_p1no 0) (a_p1fo 0) (a_p1rd 0) (a_p1pa 0) (svV sa_0 so_0) p1_0, wBytes k a_p1in 600 p1in_0, wBytes k a_p1ou 1024 p1ou_0, wRules k a_p1ru p1ru_0, wCourt k a_p1no p1no_0, wCourt k a_p1fo p1fo_4, wReader k a_p1rd (a_p1in 0) (a_p1fo 0) (a_p1rr 0) p1rd_0, wRules k a_p1rr p1rr_0, wPast k a_p1pa pp_0 p1pa_0, wModel k a_p2 p2_10, wJArr k a_p3 1 p3_5] ++ savW k sa_0 so_0) ++ poolW k pp_0 p1pa_0.2) H locs := hW
  refine k_iload E hl 1 dL_law_2129 rfl ?_
  refine lv_icmp_eq (tgt := 2136) E.hx E.hb dL_law_2131 (by decide) (fun hc => ?_) (fun hc => ?_)
  · have hf := oT hc hf
    refine k_iload E hl 1 dL_law_2136 rfl ?_
    refine lv_if_ne (tgt := 2153) E.hx E.hb dL_law_2138 (by decide) (fun hc => ?_) (fun hc => ?_)
    · have hf := oF hc hf
      refine lv_goto (tgt := 2474) E.hx E.hb dL_law_2153 (by decide) ?_
      exact hgo pp_0 sa_0 _ _ _ _ _ (by omega) (by omega) (by cases hf; exact hW) (lv_sub hl [2, 3, 4, 5, 6] rfl)
    · have hf := oT hc hf
      refine k_aload_n E hl 5 dL_law_2141 rfl ?_
      refine lv_iconst (v := (0 : Int32)) E.hx E.hb dL_law_2142 ic_0 ?_
      obtain ⟨hin, hf⟩ := oI hf
      obtain ⟨x_13, ex_13, hf⟩ := oL hf
      refine k_lald E hW 51 rfl hin dL_law_2143 ?_
      refine k_topl ex_13 ?_
      refine k_iload E hl 0 dL_law_2144 rfl ?_
      refine lv_i2l (v := (r_11).toInt64) E.hx E.hb dL_law_2146 rfl ?_
      refine W.lcmp E.hx E.hb dL_law_2147 ?_
      refine lv_if_eq (tgt := 2153) E.hx E.hb dL_law_2148 (by decide) (fun hc => ?_) (fun hc => ?_)
      · have hf := oT hc hf
        refine lv_goto (tgt := 2474) E.hx E.hb dL_law_2153 (by decide) ?_
        exact hgo pp_0 sa_0 _ _ _ _ _ (by omega) (by omega) (by cases hf; exact hW) (lv_sub hl [2, 3, 4, 5, 6] rfl)
      · have hf := oF hc hf
        refine lv_iconst (v := (0 : Int32)) E.hx E.hb dL_law_2151 ic_0 ?_
        exact o0 hf
  · have hf := oF hc hf
    refine lv_iconst (v := (0 : Int32)) E.hx E.hb dL_law_2134 ic_0 ?_
    exact o0 hf
def f_law_40 (n : Nat) (L : Nat) (xs : Nat → Int32) (v4 : Int32) (sv_0 : Value) (p1_0 : OS) (p1in_0 : OS) (p1ou_0 : OS) (p1ru_0 : OS) (p1no_0 : OS) (p1fo_0 : OS) (p1rd_0 : OS) (p1rr_0 : OS) (p1pa_0 : PS) (p2_0 : OS) (p3_0 : Nat → Int64) (so_0 : Option OS) : Option LST :=
  gI L (v4 + (1 : Int32)) (Let (xs (v4 + (1 : Int32)).toNatClampNeg) (fun x_1 : Int32 =>
  bnd3 (f_L_bestOrder n sv_0 p1_0 p1ru_0 p1no_0 p1fo_0 1 p3_0 x_1) (fun (p1fo_2 : OS) (p3_3 : Nat → Int64) (r_4 : Int32) =>
  gI L (v4 + (1 : Int32)) (Let (xs (v4 + (1 : Int32)).toNatClampNeg) (fun x_5 : Int32 =>
  bnd2 (f_X9_bestOrder n p2_0 x_5) (fun (p2_6 : OS) (r_7 : Int32) =>
  bnd (f_X9_thrown n p2_6) (fun (r_8 : Int32) =>
  if r_8 = r_4 then (
  if r_4 = 0 then (
  gI 1 (0 : Int32) (Let (p3_3 (0 : Int32).toNatClampNeg) (fun x_9 : Int64 =>
  if (lg_cmp x_9 ((r_7).toInt64)) = 0 then (
  some (p1_0, p1in_0, p1ou_0, p1ru_0, p1no_0, p1fo_2, p1rd_0, p1rr_0, p1pa_0, p2_6, p3_3, so_0)) else (
  none)))) else (
  some (p1_0, p1in_0, p1ou_0, p1ru_0, p1no_0, p1fo_2, p1rd_0, p1rr_0, p1pa_0, p2_6, p3_3, so_0))) else (
  none))))))))
set_option maxHeartbeats 4000000 in
set_option maxRecDepth 100000 in
theorem c_law_40 {p : Program} {l : Launch} {e : Env} {s : State} {m : MethodId} {below : List Frame} {meth : Method} {c : Code} {A : Nat → Prop} {Q : State → Prop} {b L : Nat} {xs : Nat → Int32} {k : KT} (n : Nat) (hE : EH k) (hx : XH l k) (hN : CCH k) (E : E0 p s m c cL_law 9 RL k A) (hX : va_X b L xs s s.heap) (hbl : b < s.heap.size) (hbA : ¬ A b) (hA : ∀ q : Nat, s.heap.size ≤ q → A q) (a_p1 : Nat → Nat) (a_p1in : Nat → Nat) (a_p1ou : Nat → Nat) (a_p1ru : Nat → Nat) (a_p1no : Nat → Nat) (a_p1fo : Nat → Nat) (a_p1rd : Nat → Nat) (a_p1rr : Nat → Nat) (a_p1pa : Nat → Nat) (a_p2 : Nat → Nat) (a_p3 : Nat → Nat) (pp_0 : Nat → Nat → Nat) (sa_0 : Nat → Nat) (v4 : Int32) (p1_0 : OS) (p1in_0 : OS) (p1ou_0 : OS) (p1ru_0 : OS) (p1no_0 : OS) (p1fo_0 : OS) (p1rd_0 : OS) (p1rr_0 : OS) (p1pa_0 : PS) (p2_0 : OS) (p3_0 : Nat → Int64) (so_0 : Option OS) (res : LST) (hf : f_law_40 n L xs v4 (svV sa_0 so_0) p1_0 p1in_0 p1ou_0 p1ru_0 p1no_0 p1fo_0 p1rd_0 p1rr_0 p1pa_0 p2_0 p3_0 so_0 = some res)
    (H : Heap) (locs : List Loc) (ls : Array Slot) (c0 s0 : Nat) (hc0 : c0 + 40 ≤ 601024) (hs0 : s0 + 8000 ≤ 7293034) (hW : WD k A s.heap ((List.flatten [wMCo k a_p1 (a_p1in 0) (a_p1ou 0) (a_p1ru 0) (a_p1no 0) (a_p1fo 0) (a_p1rd 0) (a_p1pa 0) (svV sa_0 so_0) p1_0, wBytes k a_p1in 600 p1in_0, wBytes k a_p1ou 1024 p1ou_0, wRules k a_p1ru p1ru_0, wCourt k a_p1no p1no_0, wCourt k a_p1fo p1fo_0, wReader k a_p1rd (a_p1in 0) (a_p1fo 0) (a_p1rr 0) p1rd_0, wRules k a_p1rr p1rr_0, wPast k a_p1pa pp_0 p1pa_0, wModel k a_p2 p2_0, wJArr k a_p3 1 p3_0] ++ savW k sa_0 so_0) ++ poolW k pp_0 p1pa_0.2) H locs) (hl : lv_has ls 9 [(0, .ref b), (1, .ref (a_p1 0)), (2, .ref (a_p2 0)), (3, .ref (a_p3 0)), (4, .int v4)])
    (hgo : ∀ (pp : Nat → Nat → Nat) (sa : Nat → Nat) (H : Heap) (locs : List Loc) (ls : Array Slot) (cells slots : Nat), cells ≤ c0 + 40 → slots ≤ s0 + 8000 → WD k A s.heap ((List.flatten [wMCo k a_p1 (a_p1in 0) (a_p1ou 0) (a_p1ru 0) (a_p1no 0) (a_p1fo 0) (a_p1rd 0) (a_p1pa 0) (svV sa (res.2.2.2.2.2.2.2.2.2.2.2)) (res.1), wBytes k a_p1in 600 (res.2.1), wBytes k a_p1ou 1024 (res.2.2.1), wRules k a_p1ru (res.2.2.2.1), wCourt k a_p1no (res.2.2.2.2.1), wCourt k a_p1fo (res.2.2.2.2.2.1), wReader k a_p1rd (a_p1in 0) (a_p1fo 0) (a_p1rr 0) (res.2.2.2.2.2.2.1), wRules k a_p1rr (res.2.2.2.2.2.2.2.1), wPast k a_p1pa pp (res.2.2.2.2.2.2.2.2.1), wModel k a_p2 (res.2.2.2.2.2.2.2.2.2.1), wJArr k a_p3 1 (res.2.2.2.2.2.2.2.2.2.2.1)] ++ savW k sa (res.2.2.2.2.2.2.2.2.2.2.2)) ++ poolW k pp (res.2.2.2.2.2.2.2.2.1).2) H locs → lv_has ls 9 [(0, .ref b), (1, .ref (a_p1 0)), (2, .ref (a_p2 0)), (3, .ref (a_p3 0)), (4, .int v4)] → W p l e room_1 s m #[Value.ref b] below meth c H locs cells slots Q (F0 m 2474 ls [])) :
    W p l e room_1 s m #[Value.ref b] below meth c H locs c0 s0 Q (F0 m 2156 ls []) := by
  unfold f_law_40 at hf
  refine k_aload_n E hl 1 dL_law_2156 rfl ?_
  refine k_aload_n E hl 0 dL_law_2157 rfl ?_
  refine k_iload E hl 4 dL_law_2158 rfl ?_
  refine lv_iconst (v := (1 : Int32)) E.hx E.hb dL_law_2160 ic_1 ?_
  refine lv_iadd E.hx E.hb dL_law_2161 ?_
  obtain ⟨hin, hf⟩ := oI hf
  obtain ⟨x_1, ex_1, hf⟩ := oL hf
  refine va_sld E.hx E.hb hX hbl hbA hW.2.2 hin dL_law_2162 ?_
  refine k_topi ex_1 ?_
  refine k_aload_n E hl 3 dL_law_2163 rfl ?_
  obtain ⟨p1fo_2, p3_3, r_4, hg, hf⟩ := ob3 hf
  refine k_callSXi (As := [.ref (a_p1 0), .int x_1, .ref (a_p3 0)]) (rest := []) (ws2 := fun u => (List.flatten [wMCo k a_p1 (a_p1in 0) (a_p1ou 0) (a_p1ru 0) (a_p1no 0) (a_p1fo 0) (a_p1rd 0) (a_p1pa 0) (svV sa_0 so_0) p1_0, wBytes k a_p1in 600 p1in_0, wBytes k a_p1ou 1024 p1ou_0, wRules k a_p1ru p1ru_0, wCourt k a_p1no p1no_0, wCourt k a_p1fo (u.1), wReader k a_p1rd (a_p1in 0) (a_p1fo 0) (a_p1rr 0) p1rd_0, wRules k a_p1rr p1rr_0, wPast k a_p1pa pp_0 p1pa_0, wModel k a_p2 p2_0, wJArr k a_p3 1 (u.2)] ++ savW k sa_0 so_0) ++ poolW k pp_0 p1pa_0.2) (c_L_bestOrder n l k hN hx a_p1 a_p1in a_p1ou a_p1ru a_p1no a_p1fo a_p1rd a_p1pa a_p3 (svV sa_0 so_0) p1_0 p1ru_0 p1no_0 p1fo_0 1 p3_0 x_1 (p1fo_2, p3_3, r_4) hg) E sw_264 rfl dL_law_2164 rfl (posOf [1, 2, 2, 3, 12, 12, 1, 3, 2, 13, 1] [0, 3, 4, 5, 10]) hW hA hl rfl (law_map (ln := [1, 2, 2, 3, 12, 12, 1, 3, 2, 13, 1]) (is := [0, 3, 4, 5, 10]) (cs := [wMCo k a_p1 (a_p1in 0) (a_p1ou 0) (a_p1ru 0) (a_p1no 0) (a_p1fo 0) (a_p1rd 0) (a_p1pa 0) (svV sa_0 so_0) p1_0, wRules k a_p1ru p1ru_0, wCourt k a_p1no p1no_0, wCourt k a_p1fo p1fo_0, wJArr k a_p3 1 p3_0]) (fl5 _ _ _ _ _) rfl (by decide) rfl) ⟨Nat.le_of_ble_eq_true rfl, Nat.le_of_ble_eq_true rfl⟩ ⟨by show _ ≤ 601024; omega, by show _ ≤ 7293034; omega⟩ (Nat.le_of_ble_eq_true rfl) rfl (fun _ => rfl) (fun u => law_put (ln := [1, 2, 2, 3, 12, 12, 1, 3, 2, 13, 1]) (is := [0, 3, 4, 5, 10]) (cs0 := [wMCo k a_p1 (a_p1in 0) (a_p1ou 0) (a_p1ru 0) (a_p1no 0) (a_p1fo 0) (a_p1rd 0) (a_p1pa 0) (svV sa_0 so_0) p1_0, wRules k a_p1ru p1ru_0, wCourt k a_p1no p1no_0, wCourt k a_p1fo p1fo_0, wJArr k a_p3 1 p3_0]) (cs := [wMCo k a_p1 (a_p1in 0) (a_p1ou 0) (a_p1ru 0) (a_p1no 0) (a_p1fo 0) (a_p1rd 0) (a_p1pa 0) (svV sa_0 so_0) p1_0, wRules k a_p1ru p1ru_0, wCourt k a_p1no p1no_0, wCourt k a_p1fo (u.1), wJArr k a_p3 1 (u.2)]) (fl5 _ _ _ _ _) rfl (by decide) rfl rfl) (fun r u H locs hp hW => ?_)
  obtain ⟨u0, u1⟩ := u
  try dsimp only at hp
  cases hp
  have hW : WD k A s.heap ((List.flatten [wMCo k a_p1 (a_p1in 0) (a_p1ou 0) (a_p1ru 0) (a_p1no 0) (a_p1fo 0) (a_p1rd 0) (a_p1pa 0) (svV sa_0 so_0) p1_0, wBytes k a_p1in 600 p1in_0, wBytes k a_p1ou 1024 p1ou_0, wRules k a_p1ru p1ru_0, wCourt k a_p1no p1no_0, wCourt k a_p1fo p1fo_2, wReader k a_p1rd (a_p1in 0) (a_p1fo 0) (a_p1rr 0) p1rd_0, wRules k a_p1rr p1rr_0, wPast k a_p1pa pp_0 p1pa_0, wModel k a_p2 p2_0, wJArr k a_p3 1 p3_3] ++ savW k sa_0 so_0) ++ poolW k pp_0 p1pa_0.2) H locs := hW
  refine k_istore (lv' := [(5, .int r_4), (0, .ref b), (1, .ref (a_p1 0)), (2, .ref (a_p2 0)), (3, .ref (a_p3 0)), (4, .int v4)]) E rfl hl dL_law_2167 (by decide) rfl (fun ls hl => ?_)
  refine k_aload_n E hl 3 dL_law_2169 rfl ?_
  refine k_aload_n E hl 1 dL_law_2170 rfl ?_
  refine k_iload E hl 5 dL_law_2171 rfl ?_
  refine lv_iconst (v := (1 : Int32)) E.hx E.hb dL_law_2173 ic_1 ?_
  refine lv_iadd E.hx E.hb dL_law_2174 ?_
  obtain ⟨hin, hf⟩ := oI hf
  obtain ⟨x_5, ex_5, hf⟩ := oL hf
  refine va_sld E.hx E.hb hX hbl hbA hW.2.2 hin dL_law_2175 ?_
  refine k_topi ex_5 ?_
  obtain ⟨p2_6, r_7, hg, hf⟩ := ob2 hf
  refine k_callVi (As := [.int x_5]) (rest := []) (ws2 := fun u => (List.flatten [wMCo k a_p1 (a_p1in 0) (a_p1ou 0) (a_p1ru 0) (a_p1no 0) (a_p1fo 0) (a_p1rd 0) (a_p1pa 0) (svV sa_0 so_0) p1_0, wBytes k a_p1in 600 p1in_0, wBytes k a_p1ou 1024 p1ou_0, wRules k a_p1ru p1ru_0, wCourt k a_p1no p1no_0, wCourt k a_p1fo p1fo_2, wReader k a_p1rd (a_p1in 0) (a_p1fo 0) (a_p1rr 0) p1rd_0, wRules k a_p1rr p1rr_0, wPast k a_p1pa pp_0 p1pa_0, wModel k a_p2 (u), wJArr k a_p3 1 p3_3] ++ savW k sa_0 so_0) ++ poolW k pp_0 p1pa_0.2) (c_X9_bestOrder n l k a_p2 p2_0 x_5 (p2_6, r_7) hg) E vl_L_266 dL_law_2176 rfl (posOf [1, 2, 2, 3, 12, 12, 1, 3, 2, 13, 1] [9]) 7 38 hW hA hl rfl (law_map (ln := [1, 2, 2, 3, 12, 12, 1, 3, 2, 13, 1]) (is := [9]) (cs := [wModel k a_p2 p2_0]) (fl1 _) rfl (by decide) rfl) rfl rfl ⟨Nat.le_of_ble_eq_true rfl, Nat.le_of_ble_eq_true rfl⟩ ⟨by show _ ≤ 601024; omega, by show _ ≤ 7293034; omega⟩ (Nat.le_of_ble_eq_true rfl) rfl (fun _ => rfl) (fun u => law_put (ln := [1, 2, 2, 3, 12, 12, 1, 3, 2, 13, 1]) (is := [9]) (cs0 := [wModel k a_p2 p2_0]) (cs := [wModel k a_p2 (u)]) (fl1 _) rfl (by decide) rfl rfl) (fun r u H locs hp hW => ?_)
  cases hp
  have hW : WD k A s.heap ((List.flatten [wMCo k a_p1 (a_p1in 0) (a_p1ou 0) (a_p1ru 0) (a_p1no 0) (a_p1fo 0) (a_p1rd 0) (a_p1pa 0) (svV sa_0 so_0) p1_0, wBytes k a_p1in 600 p1in_0, wBytes k a_p1ou 1024 p1ou_0, wRules k a_p1ru p1ru_0, wCourt k a_p1no p1no_0, wCourt k a_p1fo p1fo_2, wReader k a_p1rd (a_p1in 0) (a_p1fo 0) (a_p1rr 0) p1rd_0, wRules k a_p1rr p1rr_0, wPast k a_p1pa pp_0 p1pa_0, wModel k a_p2 p2_6, wJArr k a_p3 1 p3_3] ++ savW k sa_0 so_0) ++ poolW k pp_0 p1pa_0.2) H locs := hW
  refine k_istore (lv' := [(6, .int r_7), (5, .int r_4), (0, .ref b), (1, .ref (a_p1 0)), (2, .ref (a_p2 0)), (3, .ref (a_p3 0)), (4, .int v4)]) E rfl hl dL_law_2179 (by decide) rfl (fun ls hl => ?_)
  refine k_aload_n E hl 4 dL_law_2181 rfl ?_
  obtain ⟨r_8, hg, hf⟩ := ob hf
  refine k_callVi (As := []) (rest := []) (ws2 := fun u => (List.flatten [wMCo k a_p1 (a_p1in 0) (a_p1ou 0) (a_p1ru 0) (a_p1no 0) (a_p1fo 0) (a_p1rd 0) (a_p1pa 0) (svV sa_0 so_0) p1_0, wBytes k a_p1in 600 p1in_0, wBytes k a_p1ou 1024 p1ou_0, wRules k a_p1ru p1ru_0, wCourt k a_p1no p1no_0, wCourt k a_p1fo p1fo_2, wReader k a_p1rd (a_p1in 0) (a_p1fo 0) (a_p1rr 0) p1rd_0, wRules k a_p1rr p1rr_0, wPast k a_p1pa pp_0 p1pa_0, wModel k a_p2 p2_6, wJArr k a_p3 1 p3_3] ++ savW k sa_0 so_0) ++ poolW k pp_0 p1pa_0.2) (c_X9_thrown n l k a_p2 p2_6 r_8 hg) E vl_L_152 dL_law_2182 rfl (posOf [1, 2, 2, 3, 12, 12, 1, 3, 2, 13, 1] [9]) 7 38 hW hA hl rfl (law_map (ln := [1, 2, 2, 3, 12, 12, 1, 3, 2, 13, 1]) (is := [9]) (cs := [wModel k a_p2 p2_6]) (fl1 _) rfl (by decide) rfl) rfl rfl ⟨Nat.le_of_ble_eq_true rfl, Nat.le_of_ble_eq_true rfl⟩ ⟨by show _ ≤ 601024; omega, by show _ ≤ 7293034; omega⟩ (Nat.le_of_ble_eq_true rfl) rfl (fun _ => rfl) (fun u => law_put (ln := [1, 2, 2, 3, 12, 12, 1, 3, 2, 13, 1]) (is := [9]) (cs0 := [wModel k a_p2 p2_6]) (cs := [wModel k a_p2 p2_6]) (fl1 _) rfl (by decide) rfl rfl) (fun r u H locs hp hW => ?_)
  cases hp
  have hW : WD k A s.heap ((List.flatten [wMCo k a_p1 (a_p1in 0) (a_p1ou 0) (a_p1ru 0) (a_p1no 0) (a_p1fo 0) (a_p1rd 0) (a_p1pa 0) (svV sa_0 so_0) p1_0, wBytes k a_p1in 600 p1in_0, wBytes k a_p1ou 1024 p1ou_0, wRules k a_p1ru p1ru_0, wCourt k a_p1no p1no_0, wCourt k a_p1fo p1fo_2, wReader k a_p1rd (a_p1in 0) (a_p1fo 0) (a_p1rr 0) p1rd_0, wRules k a_p1rr p1rr_0, wPast k a_p1pa pp_0 p1pa_0, wModel k a_p2 p2_6, wJArr k a_p3 1 p3_3] ++ savW k sa_0 so_0) ++ poolW k pp_0 p1pa_0.2) H locs := hW
  refine k_iload E hl 1 dL_law_2185 rfl ?_
  refine lv_icmp_eq (tgt := 2192) E.hx E.hb dL_law_2187 (by decide) (fun hc => ?_) (fun hc => ?_)
  · have hf := oT hc hf
    refine k_iload E hl 1 dL_law_2192 rfl ?_
    refine lv_if_ne (tgt := 2209) E.hx E.hb dL_law_2194 (by decide) (fun hc => ?_) (fun hc => ?_)
    · have hf := oF hc hf
      refine lv_goto (tgt := 2474) E.hx E.hb dL_law_2209 (by decide) ?_
      exact hgo pp_0 sa_0 _ _ _ _ _ (by omega) (by omega) (by cases hf; exact hW) (lv_sub hl [2, 3, 4, 5, 6] rfl)
    · have hf := oT hc hf
      refine k_aload_n E hl 5 dL_law_2197 rfl ?_
      refine lv_iconst (v := (0 : Int32)) E.hx E.hb dL_law_2198 ic_0 ?_
      obtain ⟨hin, hf⟩ := oI hf
      obtain ⟨x_9, ex_9, hf⟩ := oL hf
      refine k_lald E hW 51 rfl hin dL_law_2199 ?_
      refine k_topl ex_9 ?_
      refine k_iload E hl 0 dL_law_2200 rfl ?_
      refine lv_i2l (v := (r_7).toInt64) E.hx E.hb dL_law_2202 rfl ?_
      refine W.lcmp E.hx E.hb dL_law_2203 ?_
      refine lv_if_eq (tgt := 2209) E.hx E.hb dL_law_2204 (by decide) (fun hc => ?_) (fun hc => ?_)
      · have hf := oT hc hf
        refine lv_goto (tgt := 2474) E.hx E.hb dL_law_2209 (by decide) ?_
        exact hgo pp_0 sa_0 _ _ _ _ _ (by omega) (by omega) (by cases hf; exact hW) (lv_sub hl [2, 3, 4, 5, 6] rfl)
      · have hf := oF hc hf
        refine lv_iconst (v := (0 : Int32)) E.hx E.hb dL_law_2207 ic_0 ?_
        exact o0 hf
  · have hf := oF hc hf
    refine lv_iconst (v := (0 : Int32)) E.hx E.hb dL_law_2190 ic_0 ?_
    exact o0 hf
def f_law_41 (n : Nat) (L : Nat) (xs : Nat → Int32) (v4 : Int32) (sv_0 : Value) (p1_0 : OS) (p1in_0 : OS) (p1ou_0 : OS) (p1ru_0 : OS) (p1no_0 : OS) (p1fo_0 : OS) (p1rd_0 : OS) (p1rr_0 : OS) (p1pa_0 : PS) (p2_0 : OS) (p3_0 : Nat → Int64) (so_0 : Option OS) : Option LST :=
  gI L (v4 + (1 : Int32)) (Let (xs (v4 + (1 : Int32)).toNatClampNeg) (fun x_1 : Int32 =>
  gI L (v4 + (2 : Int32)) (Let (xs (v4 + (2 : Int32)).toNatClampNeg) (fun x_2 : Int32 =>
  bnd3 (f_L_helps n sv_0 p1_0 p1ru_0 p1no_0 p1fo_0 1 p3_0 x_1 x_2) (fun (p1fo_3 : OS) (p3_4 : Nat → Int64) (r_5 : Int32) =>
  gI L (v4 + (1 : Int32)) (Let (xs (v4 + (1 : Int32)).toNatClampNeg) (fun x_6 : Int32 =>
  gI L (v4 + (2 : Int32)) (Let (xs (v4 + (2 : Int32)).toNatClampNeg) (fun x_7 : Int32 =>
  bnd2 (f_X9_helps n p2_0 x_6 x_7) (fun (p2_8 : OS) (r_9 : Int32) =>
  bnd (f_X9_thrown n p2_8) (fun (r_10 : Int32) =>
  if r_10 = r_5 then (
  if r_5 = 0 then (
  gI 1 (0 : Int32) (Let (p3_4 (0 : Int32).toNatClampNeg) (fun x_11 : Int64 =>
  if (lg_cmp x_11 ((r_9).toInt64)) = 0 then (
  some (p1_0, p1in_0, p1ou_0, p1ru_0, p1no_0, p1fo_3, p1rd_0, p1rr_0, p1pa_0, p2_8, p3_4, so_0)) else (
  none)))) else (
  some (p1_0, p1in_0, p1ou_0, p1ru_0, p1no_0, p1fo_3, p1rd_0, p1rr_0, p1pa_0, p2_8, p3_4, so_0))) else (
  none))))))))))))
set_option maxHeartbeats 4000000 in
set_option maxRecDepth 100000 in
theorem c_law_41 {p : Program} {l : Launch} {e : Env} {s : State} {m : MethodId} {below : List Frame} {meth : Method} {c : Code} {A : Nat → Prop} {Q : State → Prop} {b L : Nat} {xs : Nat → Int32} {k : KT} (n : Nat) (hE : EH k) (hx : XH l k) (hN : CCH k) (E : E0 p s m c cL_law 9 RL k A) (hX : va_X b L xs s s.heap) (hbl : b < s.heap.size) (hbA : ¬ A b) (hA : ∀ q : Nat, s.heap.size ≤ q → A q) (a_p1 : Nat → Nat) (a_p1in : Nat → Nat) (a_p1ou : Nat → Nat) (a_p1ru : Nat → Nat) (a_p1no : Nat → Nat) (a_p1fo : Nat → Nat) (a_p1rd : Nat → Nat) (a_p1rr : Nat → Nat) (a_p1pa : Nat → Nat) (a_p2 : Nat → Nat) (a_p3 : Nat → Nat) (pp_0 : Nat → Nat → Nat) (sa_0 : Nat → Nat) (v4 : Int32) (p1_0 : OS) (p1in_0 : OS) (p1ou_0 : OS) (p1ru_0 : OS) (p1no_0 : OS) (p1fo_0 : OS) (p1rd_0 : OS) (p1rr_0 : OS) (p1pa_0 : PS) (p2_0 : OS) (p3_0 : Nat → Int64) (so_0 : Option OS) (res : LST) (hf : f_law_41 n L xs v4 (svV sa_0 so_0) p1_0 p1in_0 p1ou_0 p1ru_0 p1no_0 p1fo_0 p1rd_0 p1rr_0 p1pa_0 p2_0 p3_0 so_0 = some res)
    (H : Heap) (locs : List Loc) (ls : Array Slot) (c0 s0 : Nat) (hc0 : c0 + 40 ≤ 601024) (hs0 : s0 + 8000 ≤ 7293034) (hW : WD k A s.heap ((List.flatten [wMCo k a_p1 (a_p1in 0) (a_p1ou 0) (a_p1ru 0) (a_p1no 0) (a_p1fo 0) (a_p1rd 0) (a_p1pa 0) (svV sa_0 so_0) p1_0, wBytes k a_p1in 600 p1in_0, wBytes k a_p1ou 1024 p1ou_0, wRules k a_p1ru p1ru_0, wCourt k a_p1no p1no_0, wCourt k a_p1fo p1fo_0, wReader k a_p1rd (a_p1in 0) (a_p1fo 0) (a_p1rr 0) p1rd_0, wRules k a_p1rr p1rr_0, wPast k a_p1pa pp_0 p1pa_0, wModel k a_p2 p2_0, wJArr k a_p3 1 p3_0] ++ savW k sa_0 so_0) ++ poolW k pp_0 p1pa_0.2) H locs) (hl : lv_has ls 9 [(0, .ref b), (1, .ref (a_p1 0)), (2, .ref (a_p2 0)), (3, .ref (a_p3 0)), (4, .int v4)])
    (hgo : ∀ (pp : Nat → Nat → Nat) (sa : Nat → Nat) (H : Heap) (locs : List Loc) (ls : Array Slot) (cells slots : Nat), cells ≤ c0 + 40 → slots ≤ s0 + 8000 → WD k A s.heap ((List.flatten [wMCo k a_p1 (a_p1in 0) (a_p1ou 0) (a_p1ru 0) (a_p1no 0) (a_p1fo 0) (a_p1rd 0) (a_p1pa 0) (svV sa (res.2.2.2.2.2.2.2.2.2.2.2)) (res.1), wBytes k a_p1in 600 (res.2.1), wBytes k a_p1ou 1024 (res.2.2.1), wRules k a_p1ru (res.2.2.2.1), wCourt k a_p1no (res.2.2.2.2.1), wCourt k a_p1fo (res.2.2.2.2.2.1), wReader k a_p1rd (a_p1in 0) (a_p1fo 0) (a_p1rr 0) (res.2.2.2.2.2.2.1), wRules k a_p1rr (res.2.2.2.2.2.2.2.1), wPast k a_p1pa pp (res.2.2.2.2.2.2.2.2.1), wModel k a_p2 (res.2.2.2.2.2.2.2.2.2.1), wJArr k a_p3 1 (res.2.2.2.2.2.2.2.2.2.2.1)] ++ savW k sa (res.2.2.2.2.2.2.2.2.2.2.2)) ++ poolW k pp (res.2.2.2.2.2.2.2.2.1).2) H locs → lv_has ls 9 [(0, .ref b), (1, .ref (a_p1 0)), (2, .ref (a_p2 0)), (3, .ref (a_p3 0)), (4, .int v4)] → W p l e room_1 s m #[Value.ref b] below meth c H locs cells slots Q (F0 m 2474 ls [])) :
    W p l e room_1 s m #[Value.ref b] below meth c H locs c0 s0 Q (F0 m 2212 ls []) := by
  unfold f_law_41 at hf
  refine k_aload_n E hl 1 dL_law_2212 rfl ?_
  refine k_aload_n E hl 0 dL_law_2213 rfl ?_
  refine k_iload E hl 4 dL_law_2214 rfl ?_
  refine lv_iconst (v := (1 : Int32)) E.hx E.hb dL_law_2216 ic_1 ?_
  refine lv_iadd E.hx E.hb dL_law_2217 ?_
  obtain ⟨hin, hf⟩ := oI hf
  obtain ⟨x_1, ex_1, hf⟩ := oL hf
  refine va_sld E.hx E.hb hX hbl hbA hW.2.2 hin dL_law_2218 ?_
  refine k_topi ex_1 ?_
  refine k_aload_n E hl 0 dL_law_2219 rfl ?_
  refine k_iload E hl 4 dL_law_2220 rfl ?_
  refine lv_iconst (v := (2 : Int32)) E.hx E.hb dL_law_2222 ic_2 ?_
  refine lv_iadd E.hx E.hb dL_law_2223 ?_
  obtain ⟨hin, hf⟩ := oI hf
  obtain ⟨x_2, ex_2, hf⟩ := oL hf
  refine va_sld E.hx E.hb hX hbl hbA hW.2.2 hin dL_law_2224 ?_
  refine k_topi ex_2 ?_
  refine k_aload_n E hl 3 dL_law_2225 rfl ?_
  obtain ⟨p1fo_3, p3_4, r_5, hg, hf⟩ := ob3 hf
  refine k_callSXi (As := [.ref (a_p1 0), .int x_1, .int x_2, .ref (a_p3 0)]) (rest := []) (ws2 := fun u => (List.flatten [wMCo k a_p1 (a_p1in 0) (a_p1ou 0) (a_p1ru 0) (a_p1no 0) (a_p1fo 0) (a_p1rd 0) (a_p1pa 0) (svV sa_0 so_0) p1_0, wBytes k a_p1in 600 p1in_0, wBytes k a_p1ou 1024 p1ou_0, wRules k a_p1ru p1ru_0, wCourt k a_p1no p1no_0, wCourt k a_p1fo (u.1), wReader k a_p1rd (a_p1in 0) (a_p1fo 0) (a_p1rr 0) p1rd_0, wRules k a_p1rr p1rr_0, wPast k a_p1pa pp_0 p1pa_0, wModel k a_p2 p2_0, wJArr k a_p3 1 (u.2)] ++ savW k sa_0 so_0) ++ poolW k pp_0 p1pa_0.2) (c_L_helps n l k hN hx a_p1 a_p1in a_p1ou a_p1ru a_p1no a_p1fo a_p1rd a_p1pa a_p3 (svV sa_0 so_0) p1_0 p1ru_0 p1no_0 p1fo_0 1 p3_0 x_1 x_2 (p1fo_3, p3_4, r_5) hg) E sw_267 rfl dL_law_2226 rfl (posOf [1, 2, 2, 3, 12, 12, 1, 3, 2, 13, 1] [0, 3, 4, 5, 10]) hW hA hl rfl (law_map (ln := [1, 2, 2, 3, 12, 12, 1, 3, 2, 13, 1]) (is := [0, 3, 4, 5, 10]) (cs := [wMCo k a_p1 (a_p1in 0) (a_p1ou 0) (a_p1ru 0) (a_p1no 0) (a_p1fo 0) (a_p1rd 0) (a_p1pa 0) (svV sa_0 so_0) p1_0, wRules k a_p1ru p1ru_0, wCourt k a_p1no p1no_0, wCourt k a_p1fo p1fo_0, wJArr k a_p3 1 p3_0]) (fl5 _ _ _ _ _) rfl (by decide) rfl) ⟨Nat.le_of_ble_eq_true rfl, Nat.le_of_ble_eq_true rfl⟩ ⟨by show _ ≤ 601024; omega, by show _ ≤ 7293034; omega⟩ (Nat.le_of_ble_eq_true rfl) rfl (fun _ => rfl) (fun u => law_put (ln := [1, 2, 2, 3, 12, 12, 1, 3, 2, 13, 1]) (is := [0, 3, 4, 5, 10]) (cs0 := [wMCo k a_p1 (a_p1in 0) (a_p1ou 0) (a_p1ru 0) (a_p1no 0) (a_p1fo 0) (a_p1rd 0) (a_p1pa 0) (svV sa_0 so_0) p1_0, wRules k a_p1ru p1ru_0, wCourt k a_p1no p1no_0, wCourt k a_p1fo p1fo_0, wJArr k a_p3 1 p3_0]) (cs := [wMCo k a_p1 (a_p1in 0) (a_p1ou 0) (a_p1ru 0) (a_p1no 0) (a_p1fo 0) (a_p1rd 0) (a_p1pa 0) (svV sa_0 so_0) p1_0, wRules k a_p1ru p1ru_0, wCourt k a_p1no p1no_0, wCourt k a_p1fo (u.1), wJArr k a_p3 1 (u.2)]) (fl5 _ _ _ _ _) rfl (by decide) rfl rfl) (fun r u H locs hp hW => ?_)
  obtain ⟨u0, u1⟩ := u
  try dsimp only at hp
  cases hp
  have hW : WD k A s.heap ((List.flatten [wMCo k a_p1 (a_p1in 0) (a_p1ou 0) (a_p1ru 0) (a_p1no 0) (a_p1fo 0) (a_p1rd 0) (a_p1pa 0) (svV sa_0 so_0) p1_0, wBytes k a_p1in 600 p1in_0, wBytes k a_p1ou 1024 p1ou_0, wRules k a_p1ru p1ru_0, wCourt k a_p1no p1no_0, wCourt k a_p1fo p1fo_3, wReader k a_p1rd (a_p1in 0) (a_p1fo 0) (a_p1rr 0) p1rd_0, wRules k a_p1rr p1rr_0, wPast k a_p1pa pp_0 p1pa_0, wModel k a_p2 p2_0, wJArr k a_p3 1 p3_4] ++ savW k sa_0 so_0) ++ poolW k pp_0 p1pa_0.2) H locs := hW
  refine k_istore (lv' := [(5, .int r_5), (0, .ref b), (1, .ref (a_p1 0)), (2, .ref (a_p2 0)), (3, .ref (a_p3 0)), (4, .int v4)]) E rfl hl dL_law_2229 (by decide) rfl (fun ls hl => ?_)
  refine k_aload_n E hl 3 dL_law_2231 rfl ?_
  refine k_aload_n E hl 1 dL_law_2232 rfl ?_
  refine k_iload E hl 5 dL_law_2233 rfl ?_
  refine lv_iconst (v := (1 : Int32)) E.hx E.hb dL_law_2235 ic_1 ?_
  refine lv_iadd E.hx E.hb dL_law_2236 ?_
  obtain ⟨hin, hf⟩ := oI hf
  obtain ⟨x_6, ex_6, hf⟩ := oL hf
  refine va_sld E.hx E.hb hX hbl hbA hW.2.2 hin dL_law_2237 ?_
  refine k_topi ex_6 ?_
  refine k_aload_n E hl 1 dL_law_2238 rfl ?_
  refine k_iload E hl 5 dL_law_2239 rfl ?_
  refine lv_iconst (v := (2 : Int32)) E.hx E.hb dL_law_2241 ic_2 ?_
  refine lv_iadd E.hx E.hb dL_law_2242 ?_
  obtain ⟨hin, hf⟩ := oI hf
  obtain ⟨x_7, ex_7, hf⟩ := oL hf
  refine va_sld E.hx E.hb hX hbl hbA hW.2.2 hin dL_law_2243 ?_
  refine k_topi ex_7 ?_
  obtain ⟨p2_8, r_9, hg, hf⟩ := ob2 hf
  refine k_callVi (As := [.int x_6, .int x_7]) (rest := []) (ws2 := fun u => (List.flatten [wMCo k a_p1 (a_p1in 0) (a_p1ou 0) (a_p1ru 0) (a_p1no 0) (a_p1fo 0) (a_p1rd 0) (a_p1pa 0) (svV sa_0 so_0) p1_0, wBytes k a_p1in 600 p1in_0, wBytes k a_p1ou 1024 p1ou_0, wRules k a_p1ru p1ru_0, wCourt k a_p1no p1no_0, wCourt k a_p1fo p1fo_3, wReader k a_p1rd (a_p1in 0) (a_p1fo 0) (a_p1rr 0) p1rd_0, wRules k a_p1rr p1rr_0, wPast k a_p1pa pp_0 p1pa_0, wModel k a_p2 (u), wJArr k a_p3 1 p3_4] ++ savW k sa_0 so_0) ++ poolW k pp_0 p1pa_0.2) (c_X9_helps n l k a_p2 p2_0 x_6 x_7 (p2_8, r_9) hg) E vl_L_269 dL_law_2244 rfl (posOf [1, 2, 2, 3, 12, 12, 1, 3, 2, 13, 1] [9]) 7 38 hW hA hl rfl (law_map (ln := [1, 2, 2, 3, 12, 12, 1, 3, 2, 13, 1]) (is := [9]) (cs := [wModel k a_p2 p2_0]) (fl1 _) rfl (by decide) rfl) rfl rfl ⟨Nat.le_of_ble_eq_true rfl, Nat.le_of_ble_eq_true rfl⟩ ⟨by show _ ≤ 601024; omega, by show _ ≤ 7293034; omega⟩ (Nat.le_of_ble_eq_true rfl) rfl (fun _ => rfl) (fun u => law_put (ln := [1, 2, 2, 3, 12, 12, 1, 3, 2, 13, 1]) (is := [9]) (cs0 := [wModel k a_p2 p2_0]) (cs := [wModel k a_p2 (u)]) (fl1 _) rfl (by decide) rfl rfl) (fun r u H locs hp hW => ?_)
  cases hp
  have hW : WD k A s.heap ((List.flatten [wMCo k a_p1 (a_p1in 0) (a_p1ou 0) (a_p1ru 0) (a_p1no 0) (a_p1fo 0) (a_p1rd 0) (a_p1pa 0) (svV sa_0 so_0) p1_0, wBytes k a_p1in 600 p1in_0, wBytes k a_p1ou 1024 p1ou_0, wRules k a_p1ru p1ru_0, wCourt k a_p1no p1no_0, wCourt k a_p1fo p1fo_3, wReader k a_p1rd (a_p1in 0) (a_p1fo 0) (a_p1rr 0) p1rd_0, wRules k a_p1rr p1rr_0, wPast k a_p1pa pp_0 p1pa_0, wModel k a_p2 p2_8, wJArr k a_p3 1 p3_4] ++ savW k sa_0 so_0) ++ poolW k pp_0 p1pa_0.2) H locs := hW
  refine k_istore (lv' := [(6, .int r_9), (5, .int r_5), (0, .ref b), (1, .ref (a_p1 0)), (2, .ref (a_p2 0)), (3, .ref (a_p3 0)), (4, .int v4)]) E rfl hl dL_law_2247 (by decide) rfl (fun ls hl => ?_)
  refine k_aload_n E hl 4 dL_law_2249 rfl ?_
  obtain ⟨r_10, hg, hf⟩ := ob hf
  refine k_callVi (As := []) (rest := []) (ws2 := fun u => (List.flatten [wMCo k a_p1 (a_p1in 0) (a_p1ou 0) (a_p1ru 0) (a_p1no 0) (a_p1fo 0) (a_p1rd 0) (a_p1pa 0) (svV sa_0 so_0) p1_0, wBytes k a_p1in 600 p1in_0, wBytes k a_p1ou 1024 p1ou_0, wRules k a_p1ru p1ru_0, wCourt k a_p1no p1no_0, wCourt k a_p1fo p1fo_3, wReader k a_p1rd (a_p1in 0) (a_p1fo 0) (a_p1rr 0) p1rd_0, wRules k a_p1rr p1rr_0, wPast k a_p1pa pp_0 p1pa_0, wModel k a_p2 p2_8, wJArr k a_p3 1 p3_4] ++ savW k sa_0 so_0) ++ poolW k pp_0 p1pa_0.2) (c_X9_thrown n l k a_p2 p2_8 r_10 hg) E vl_L_152 dL_law_2250 rfl (posOf [1, 2, 2, 3, 12, 12, 1, 3, 2, 13, 1] [9]) 7 38 hW hA hl rfl (law_map (ln := [1, 2, 2, 3, 12, 12, 1, 3, 2, 13, 1]) (is := [9]) (cs := [wModel k a_p2 p2_8]) (fl1 _) rfl (by decide) rfl) rfl rfl ⟨Nat.le_of_ble_eq_true rfl, Nat.le_of_ble_eq_true rfl⟩ ⟨by show _ ≤ 601024; omega, by show _ ≤ 7293034; omega⟩ (Nat.le_of_ble_eq_true rfl) rfl (fun _ => rfl) (fun u => law_put (ln := [1, 2, 2, 3, 12, 12, 1, 3, 2, 13, 1]) (is := [9]) (cs0 := [wModel k a_p2 p2_8]) (cs := [wModel k a_p2 p2_8]) (fl1 _) rfl (by decide) rfl rfl) (fun r u H locs hp hW => ?_)
  cases hp
  have hW : WD k A s.heap ((List.flatten [wMCo k a_p1 (a_p1in 0) (a_p1ou 0) (a_p1ru 0) (a_p1no 0) (a_p1fo 0) (a_p1rd 0) (a_p1pa 0) (svV sa_0 so_0) p1_0, wBytes k a_p1in 600 p1in_0, wBytes k a_p1ou 1024 p1ou_0, wRules k a_p1ru p1ru_0, wCourt k a_p1no p1no_0, wCourt k a_p1fo p1fo_3, wReader k a_p1rd (a_p1in 0) (a_p1fo 0) (a_p1rr 0) p1rd_0, wRules k a_p1rr p1rr_0, wPast k a_p1pa pp_0 p1pa_0, wModel k a_p2 p2_8, wJArr k a_p3 1 p3_4] ++ savW k sa_0 so_0) ++ poolW k pp_0 p1pa_0.2) H locs := hW
  refine k_iload E hl 1 dL_law_2253 rfl ?_
  refine lv_icmp_eq (tgt := 2260) E.hx E.hb dL_law_2255 (by decide) (fun hc => ?_) (fun hc => ?_)
  · have hf := oT hc hf
    refine k_iload E hl 1 dL_law_2260 rfl ?_
    refine lv_if_ne (tgt := 2277) E.hx E.hb dL_law_2262 (by decide) (fun hc => ?_) (fun hc => ?_)
    · have hf := oF hc hf
      refine lv_goto (tgt := 2474) E.hx E.hb dL_law_2277 (by decide) ?_
      exact hgo pp_0 sa_0 _ _ _ _ _ (by omega) (by omega) (by cases hf; exact hW) (lv_sub hl [2, 3, 4, 5, 6] rfl)
    · have hf := oT hc hf
      refine k_aload_n E hl 5 dL_law_2265 rfl ?_
      refine lv_iconst (v := (0 : Int32)) E.hx E.hb dL_law_2266 ic_0 ?_
      obtain ⟨hin, hf⟩ := oI hf
      obtain ⟨x_11, ex_11, hf⟩ := oL hf
      refine k_lald E hW 51 rfl hin dL_law_2267 ?_
      refine k_topl ex_11 ?_
      refine k_iload E hl 0 dL_law_2268 rfl ?_
      refine lv_i2l (v := (r_9).toInt64) E.hx E.hb dL_law_2270 rfl ?_
      refine W.lcmp E.hx E.hb dL_law_2271 ?_
      refine lv_if_eq (tgt := 2277) E.hx E.hb dL_law_2272 (by decide) (fun hc => ?_) (fun hc => ?_)
      · have hf := oT hc hf
        refine lv_goto (tgt := 2474) E.hx E.hb dL_law_2277 (by decide) ?_
        exact hgo pp_0 sa_0 _ _ _ _ _ (by omega) (by omega) (by cases hf; exact hW) (lv_sub hl [2, 3, 4, 5, 6] rfl)
      · have hf := oF hc hf
        refine lv_iconst (v := (0 : Int32)) E.hx E.hb dL_law_2275 ic_0 ?_
        exact o0 hf
  · have hf := oF hc hf
    refine lv_iconst (v := (0 : Int32)) E.hx E.hb dL_law_2258 ic_0 ?_
    exact o0 hf
def f_law_42 (n : Nat) (L : Nat) (xs : Nat → Int32) (v4 : Int32) (sv_0 : Value) (p1_0 : OS) (p1in_0 : OS) (p1ou_0 : OS) (p1ru_0 : OS) (p1no_0 : OS) (p1fo_0 : OS) (p1rd_0 : OS) (p1rr_0 : OS) (p1pa_0 : PS) (p2_0 : OS) (p3_0 : Nat → Int64) (so_0 : Option OS) : Option LST :=
  gI L (v4 + (1 : Int32)) (Let (xs (v4 + (1 : Int32)).toNatClampNeg) (fun x_1 : Int32 =>
  bnd2 (f_L_wouldAppeal n sv_0 p1_0 p1ru_0 p1no_0 1 p3_0 x_1) (fun (p3_2 : Nat → Int64) (r_3 : Int32) =>
  gI L (v4 + (1 : Int32)) (Let (xs (v4 + (1 : Int32)).toNatClampNeg) (fun x_4 : Int32 =>
  bnd2 (f_X9_wouldAppeal n p2_0 x_4) (fun (p2_5 : OS) (r_6 : Int32) =>
  bnd (f_X9_thrown n p2_5) (fun (r_7 : Int32) =>
  if r_7 = r_3 then (
  if r_3 = 0 then (
  gI 1 (0 : Int32) (Let (p3_2 (0 : Int32).toNatClampNeg) (fun x_8 : Int64 =>
  if (lg_cmp x_8 ((r_6).toInt64)) = 0 then (
  some (p1_0, p1in_0, p1ou_0, p1ru_0, p1no_0, p1fo_0, p1rd_0, p1rr_0, p1pa_0, p2_5, p3_2, so_0)) else (
  none)))) else (
  some (p1_0, p1in_0, p1ou_0, p1ru_0, p1no_0, p1fo_0, p1rd_0, p1rr_0, p1pa_0, p2_5, p3_2, so_0))) else (
  none))))))))
set_option maxHeartbeats 4000000 in
set_option maxRecDepth 100000 in
theorem c_law_42 {p : Program} {l : Launch} {e : Env} {s : State} {m : MethodId} {below : List Frame} {meth : Method} {c : Code} {A : Nat → Prop} {Q : State → Prop} {b L : Nat} {xs : Nat → Int32} {k : KT} (n : Nat) (hE : EH k) (hx : XH l k) (hN : CCH k) (E : E0 p s m c cL_law 9 RL k A) (hX : va_X b L xs s s.heap) (hbl : b < s.heap.size) (hbA : ¬ A b) (hA : ∀ q : Nat, s.heap.size ≤ q → A q) (a_p1 : Nat → Nat) (a_p1in : Nat → Nat) (a_p1ou : Nat → Nat) (a_p1ru : Nat → Nat) (a_p1no : Nat → Nat) (a_p1fo : Nat → Nat) (a_p1rd : Nat → Nat) (a_p1rr : Nat → Nat) (a_p1pa : Nat → Nat) (a_p2 : Nat → Nat) (a_p3 : Nat → Nat) (pp_0 : Nat → Nat → Nat) (sa_0 : Nat → Nat) (v4 : Int32) (p1_0 : OS) (p1in_0 : OS) (p1ou_0 : OS) (p1ru_0 : OS) (p1no_0 : OS) (p1fo_0 : OS) (p1rd_0 : OS) (p1rr_0 : OS) (p1pa_0 : PS) (p2_0 : OS) (p3_0 : Nat → Int64) (so_0 : Option OS) (res : LST) (hf : f_law_42 n L xs v4 (svV sa_0 so_0) p1_0 p1in_0 p1ou_0 p1ru_0 p1no_0 p1fo_0 p1rd_0 p1rr_0 p1pa_0 p2_0 p3_0 so_0 = some res)
    (H : Heap) (locs : List Loc) (ls : Array Slot) (c0 s0 : Nat) (hc0 : c0 + 40 ≤ 601024) (hs0 : s0 + 8000 ≤ 7293034) (hW : WD k A s.heap ((List.flatten [wMCo k a_p1 (a_p1in 0) (a_p1ou 0) (a_p1ru 0) (a_p1no 0) (a_p1fo 0) (a_p1rd 0) (a_p1pa 0) (svV sa_0 so_0) p1_0, wBytes k a_p1in 600 p1in_0, wBytes k a_p1ou 1024 p1ou_0, wRules k a_p1ru p1ru_0, wCourt k a_p1no p1no_0, wCourt k a_p1fo p1fo_0, wReader k a_p1rd (a_p1in 0) (a_p1fo 0) (a_p1rr 0) p1rd_0, wRules k a_p1rr p1rr_0, wPast k a_p1pa pp_0 p1pa_0, wModel k a_p2 p2_0, wJArr k a_p3 1 p3_0] ++ savW k sa_0 so_0) ++ poolW k pp_0 p1pa_0.2) H locs) (hl : lv_has ls 9 [(0, .ref b), (1, .ref (a_p1 0)), (2, .ref (a_p2 0)), (3, .ref (a_p3 0)), (4, .int v4)])
    (hgo : ∀ (pp : Nat → Nat → Nat) (sa : Nat → Nat) (H : Heap) (locs : List Loc) (ls : Array Slot) (cells slots : Nat), cells ≤ c0 + 40 → slots ≤ s0 + 8000 → WD k A s.heap ((List.flatten [wMCo k a_p1 (a_p1in 0) (a_p1ou 0) (a_p1ru 0) (a_p1no 0) (a_p1fo 0) (a_p1rd 0) (a_p1pa 0) (svV sa (res.2.2.2.2.2.2.2.2.2.2.2)) (res.1), wBytes k a_p1in 600 (res.2.1), wBytes k a_p1ou 1024 (res.2.2.1), wRules k a_p1ru (res.2.2.2.1), wCourt k a_p1no (res.2.2.2.2.1), wCourt k a_p1fo (res.2.2.2.2.2.1), wReader k a_p1rd (a_p1in 0) (a_p1fo 0) (a_p1rr 0) (res.2.2.2.2.2.2.1), wRules k a_p1rr (res.2.2.2.2.2.2.2.1), wPast k a_p1pa pp (res.2.2.2.2.2.2.2.2.1), wModel k a_p2 (res.2.2.2.2.2.2.2.2.2.1), wJArr k a_p3 1 (res.2.2.2.2.2.2.2.2.2.2.1)] ++ savW k sa (res.2.2.2.2.2.2.2.2.2.2.2)) ++ poolW k pp (res.2.2.2.2.2.2.2.2.1).2) H locs → lv_has ls 9 [(0, .ref b), (1, .ref (a_p1 0)), (2, .ref (a_p2 0)), (3, .ref (a_p3 0)), (4, .int v4)] → W p l e room_1 s m #[Value.ref b] below meth c H locs cells slots Q (F0 m 2474 ls [])) :
    W p l e room_1 s m #[Value.ref b] below meth c H locs c0 s0 Q (F0 m 2280 ls []) := by
  unfold f_law_42 at hf
  refine k_aload_n E hl 1 dL_law_2280 rfl ?_
  refine k_aload_n E hl 0 dL_law_2281 rfl ?_
  refine k_iload E hl 4 dL_law_2282 rfl ?_
  refine lv_iconst (v := (1 : Int32)) E.hx E.hb dL_law_2284 ic_1 ?_
  refine lv_iadd E.hx E.hb dL_law_2285 ?_
  obtain ⟨hin, hf⟩ := oI hf
  obtain ⟨x_1, ex_1, hf⟩ := oL hf
  refine va_sld E.hx E.hb hX hbl hbA hW.2.2 hin dL_law_2286 ?_
  refine k_topi ex_1 ?_
  refine k_aload_n E hl 3 dL_law_2287 rfl ?_
  obtain ⟨p3_2, r_3, hg, hf⟩ := ob2 hf
  refine k_callSXi (As := [.ref (a_p1 0), .int x_1, .ref (a_p3 0)]) (rest := []) (ws2 := fun u => (List.flatten [wMCo k a_p1 (a_p1in 0) (a_p1ou 0) (a_p1ru 0) (a_p1no 0) (a_p1fo 0) (a_p1rd 0) (a_p1pa 0) (svV sa_0 so_0) p1_0, wBytes k a_p1in 600 p1in_0, wBytes k a_p1ou 1024 p1ou_0, wRules k a_p1ru p1ru_0, wCourt k a_p1no p1no_0, wCourt k a_p1fo p1fo_0, wReader k a_p1rd (a_p1in 0) (a_p1fo 0) (a_p1rr 0) p1rd_0, wRules k a_p1rr p1rr_0, wPast k a_p1pa pp_0 p1pa_0, wModel k a_p2 p2_0, wJArr k a_p3 1 (u)] ++ savW k sa_0 so_0) ++ poolW k pp_0 p1pa_0.2) (c_L_wouldAppeal n l k hN hx a_p1 a_p1in a_p1ou a_p1ru a_p1no a_p1fo a_p1rd a_p1pa a_p3 (svV sa_0 so_0) p1_0 p1ru_0 p1no_0 1 p3_0 x_1 (p3_2, r_3) hg) E sw_270 rfl dL_law_2288 rfl (posOf [1, 2, 2, 3, 12, 12, 1, 3, 2, 13, 1] [0, 3, 4, 10]) hW hA hl rfl (law_map (ln := [1, 2, 2, 3, 12, 12, 1, 3, 2, 13, 1]) (is := [0, 3, 4, 10]) (cs := [wMCo k a_p1 (a_p1in 0) (a_p1ou 0) (a_p1ru 0) (a_p1no 0) (a_p1fo 0) (a_p1rd 0) (a_p1pa 0) (svV sa_0 so_0) p1_0, wRules k a_p1ru p1ru_0, wCourt k a_p1no p1no_0, wJArr k a_p3 1 p3_0]) (fl4 _ _ _ _) rfl (by decide) rfl) ⟨Nat.le_of_ble_eq_true rfl, Nat.le_of_ble_eq_true rfl⟩ ⟨by show _ ≤ 601024; omega, by show _ ≤ 7293034; omega⟩ (Nat.le_of_ble_eq_true rfl) rfl (fun _ => rfl) (fun u => law_put (ln := [1, 2, 2, 3, 12, 12, 1, 3, 2, 13, 1]) (is := [0, 3, 4, 10]) (cs0 := [wMCo k a_p1 (a_p1in 0) (a_p1ou 0) (a_p1ru 0) (a_p1no 0) (a_p1fo 0) (a_p1rd 0) (a_p1pa 0) (svV sa_0 so_0) p1_0, wRules k a_p1ru p1ru_0, wCourt k a_p1no p1no_0, wJArr k a_p3 1 p3_0]) (cs := [wMCo k a_p1 (a_p1in 0) (a_p1ou 0) (a_p1ru 0) (a_p1no 0) (a_p1fo 0) (a_p1rd 0) (a_p1pa 0) (svV sa_0 so_0) p1_0, wRules k a_p1ru p1ru_0, wCourt k a_p1no p1no_0, wJArr k a_p3 1 (u)]) (fl4 _ _ _ _) rfl (by decide) rfl rfl) (fun r u H locs hp hW => ?_)
  cases hp
  have hW : WD k A s.heap ((List.flatten [wMCo k a_p1 (a_p1in 0) (a_p1ou 0) (a_p1ru 0) (a_p1no 0) (a_p1fo 0) (a_p1rd 0) (a_p1pa 0) (svV sa_0 so_0) p1_0, wBytes k a_p1in 600 p1in_0, wBytes k a_p1ou 1024 p1ou_0, wRules k a_p1ru p1ru_0, wCourt k a_p1no p1no_0, wCourt k a_p1fo p1fo_0, wReader k a_p1rd (a_p1in 0) (a_p1fo 0) (a_p1rr 0) p1rd_0, wRules k a_p1rr p1rr_0, wPast k a_p1pa pp_0 p1pa_0, wModel k a_p2 p2_0, wJArr k a_p3 1 p3_2] ++ savW k sa_0 so_0) ++ poolW k pp_0 p1pa_0.2) H locs := hW
  refine k_istore (lv' := [(5, .int r_3), (0, .ref b), (1, .ref (a_p1 0)), (2, .ref (a_p2 0)), (3, .ref (a_p3 0)), (4, .int v4)]) E rfl hl dL_law_2291 (by decide) rfl (fun ls hl => ?_)
  refine k_aload_n E hl 3 dL_law_2293 rfl ?_
  refine k_aload_n E hl 1 dL_law_2294 rfl ?_
  refine k_iload E hl 5 dL_law_2295 rfl ?_
  refine lv_iconst (v := (1 : Int32)) E.hx E.hb dL_law_2297 ic_1 ?_
  refine lv_iadd E.hx E.hb dL_law_2298 ?_
  obtain ⟨hin, hf⟩ := oI hf
  obtain ⟨x_4, ex_4, hf⟩ := oL hf
  refine va_sld E.hx E.hb hX hbl hbA hW.2.2 hin dL_law_2299 ?_
  refine k_topi ex_4 ?_
  obtain ⟨p2_5, r_6, hg, hf⟩ := ob2 hf
  refine k_callVi (As := [.int x_4]) (rest := []) (ws2 := fun u => (List.flatten [wMCo k a_p1 (a_p1in 0) (a_p1ou 0) (a_p1ru 0) (a_p1no 0) (a_p1fo 0) (a_p1rd 0) (a_p1pa 0) (svV sa_0 so_0) p1_0, wBytes k a_p1in 600 p1in_0, wBytes k a_p1ou 1024 p1ou_0, wRules k a_p1ru p1ru_0, wCourt k a_p1no p1no_0, wCourt k a_p1fo p1fo_0, wReader k a_p1rd (a_p1in 0) (a_p1fo 0) (a_p1rr 0) p1rd_0, wRules k a_p1rr p1rr_0, wPast k a_p1pa pp_0 p1pa_0, wModel k a_p2 (u), wJArr k a_p3 1 p3_2] ++ savW k sa_0 so_0) ++ poolW k pp_0 p1pa_0.2) (c_X9_wouldAppeal n l k a_p2 p2_0 x_4 (p2_5, r_6) hg) E vl_L_272 dL_law_2300 rfl (posOf [1, 2, 2, 3, 12, 12, 1, 3, 2, 13, 1] [9]) 7 38 hW hA hl rfl (law_map (ln := [1, 2, 2, 3, 12, 12, 1, 3, 2, 13, 1]) (is := [9]) (cs := [wModel k a_p2 p2_0]) (fl1 _) rfl (by decide) rfl) rfl rfl ⟨Nat.le_of_ble_eq_true rfl, Nat.le_of_ble_eq_true rfl⟩ ⟨by show _ ≤ 601024; omega, by show _ ≤ 7293034; omega⟩ (Nat.le_of_ble_eq_true rfl) rfl (fun _ => rfl) (fun u => law_put (ln := [1, 2, 2, 3, 12, 12, 1, 3, 2, 13, 1]) (is := [9]) (cs0 := [wModel k a_p2 p2_0]) (cs := [wModel k a_p2 (u)]) (fl1 _) rfl (by decide) rfl rfl) (fun r u H locs hp hW => ?_)
  cases hp
  have hW : WD k A s.heap ((List.flatten [wMCo k a_p1 (a_p1in 0) (a_p1ou 0) (a_p1ru 0) (a_p1no 0) (a_p1fo 0) (a_p1rd 0) (a_p1pa 0) (svV sa_0 so_0) p1_0, wBytes k a_p1in 600 p1in_0, wBytes k a_p1ou 1024 p1ou_0, wRules k a_p1ru p1ru_0, wCourt k a_p1no p1no_0, wCourt k a_p1fo p1fo_0, wReader k a_p1rd (a_p1in 0) (a_p1fo 0) (a_p1rr 0) p1rd_0, wRules k a_p1rr p1rr_0, wPast k a_p1pa pp_0 p1pa_0, wModel k a_p2 p2_5, wJArr k a_p3 1 p3_2] ++ savW k sa_0 so_0) ++ poolW k pp_0 p1pa_0.2) H locs := hW
  refine k_istore (lv' := [(6, .int r_6), (5, .int r_3), (0, .ref b), (1, .ref (a_p1 0)), (2, .ref (a_p2 0)), (3, .ref (a_p3 0)), (4, .int v4)]) E rfl hl dL_law_2303 (by decide) rfl (fun ls hl => ?_)
  refine k_aload_n E hl 4 dL_law_2305 rfl ?_
  obtain ⟨r_7, hg, hf⟩ := ob hf
  refine k_callVi (As := []) (rest := []) (ws2 := fun u => (List.flatten [wMCo k a_p1 (a_p1in 0) (a_p1ou 0) (a_p1ru 0) (a_p1no 0) (a_p1fo 0) (a_p1rd 0) (a_p1pa 0) (svV sa_0 so_0) p1_0, wBytes k a_p1in 600 p1in_0, wBytes k a_p1ou 1024 p1ou_0, wRules k a_p1ru p1ru_0, wCourt k a_p1no p1no_0, wCourt k a_p1fo p1fo_0, wReader k a_p1rd (a_p1in 0) (a_p1fo 0) (a_p1rr 0) p1rd_0, wRules k a_p1rr p1rr_0, wPast k a_p1pa pp_0 p1pa_0, wModel k a_p2 p2_5, wJArr k a_p3 1 p3_2] ++ savW k sa_0 so_0) ++ poolW k pp_0 p1pa_0.2) (c_X9_thrown n l k a_p2 p2_5 r_7 hg) E vl_L_152 dL_law_2306 rfl (posOf [1, 2, 2, 3, 12, 12, 1, 3, 2, 13, 1] [9]) 7 38 hW hA hl rfl (law_map (ln := [1, 2, 2, 3, 12, 12, 1, 3, 2, 13, 1]) (is := [9]) (cs := [wModel k a_p2 p2_5]) (fl1 _) rfl (by decide) rfl) rfl rfl ⟨Nat.le_of_ble_eq_true rfl, Nat.le_of_ble_eq_true rfl⟩ ⟨by show _ ≤ 601024; omega, by show _ ≤ 7293034; omega⟩ (Nat.le_of_ble_eq_true rfl) rfl (fun _ => rfl) (fun u => law_put (ln := [1, 2, 2, 3, 12, 12, 1, 3, 2, 13, 1]) (is := [9]) (cs0 := [wModel k a_p2 p2_5]) (cs := [wModel k a_p2 p2_5]) (fl1 _) rfl (by decide) rfl rfl) (fun r u H locs hp hW => ?_)
  cases hp
  have hW : WD k A s.heap ((List.flatten [wMCo k a_p1 (a_p1in 0) (a_p1ou 0) (a_p1ru 0) (a_p1no 0) (a_p1fo 0) (a_p1rd 0) (a_p1pa 0) (svV sa_0 so_0) p1_0, wBytes k a_p1in 600 p1in_0, wBytes k a_p1ou 1024 p1ou_0, wRules k a_p1ru p1ru_0, wCourt k a_p1no p1no_0, wCourt k a_p1fo p1fo_0, wReader k a_p1rd (a_p1in 0) (a_p1fo 0) (a_p1rr 0) p1rd_0, wRules k a_p1rr p1rr_0, wPast k a_p1pa pp_0 p1pa_0, wModel k a_p2 p2_5, wJArr k a_p3 1 p3_2] ++ savW k sa_0 so_0) ++ poolW k pp_0 p1pa_0.2) H locs := hW
  refine k_iload E hl 1 dL_law_2309 rfl ?_
  refine lv_icmp_eq (tgt := 2316) E.hx E.hb dL_law_2311 (by decide) (fun hc => ?_) (fun hc => ?_)
  · have hf := oT hc hf
    refine k_iload E hl 1 dL_law_2316 rfl ?_
    refine lv_if_ne (tgt := 2333) E.hx E.hb dL_law_2318 (by decide) (fun hc => ?_) (fun hc => ?_)
    · have hf := oF hc hf
      refine lv_goto (tgt := 2474) E.hx E.hb dL_law_2333 (by decide) ?_
      exact hgo pp_0 sa_0 _ _ _ _ _ (by omega) (by omega) (by cases hf; exact hW) (lv_sub hl [2, 3, 4, 5, 6] rfl)
    · have hf := oT hc hf
      refine k_aload_n E hl 5 dL_law_2321 rfl ?_
      refine lv_iconst (v := (0 : Int32)) E.hx E.hb dL_law_2322 ic_0 ?_
      obtain ⟨hin, hf⟩ := oI hf
      obtain ⟨x_8, ex_8, hf⟩ := oL hf
      refine k_lald E hW 51 rfl hin dL_law_2323 ?_
      refine k_topl ex_8 ?_
      refine k_iload E hl 0 dL_law_2324 rfl ?_
      refine lv_i2l (v := (r_6).toInt64) E.hx E.hb dL_law_2326 rfl ?_
      refine W.lcmp E.hx E.hb dL_law_2327 ?_
      refine lv_if_eq (tgt := 2333) E.hx E.hb dL_law_2328 (by decide) (fun hc => ?_) (fun hc => ?_)
      · have hf := oT hc hf
        refine lv_goto (tgt := 2474) E.hx E.hb dL_law_2333 (by decide) ?_
        exact hgo pp_0 sa_0 _ _ _ _ _ (by omega) (by omega) (by cases hf; exact hW) (lv_sub hl [2, 3, 4, 5, 6] rfl)
      · have hf := oF hc hf
        refine lv_iconst (v := (0 : Int32)) E.hx E.hb dL_law_2331 ic_0 ?_
        exact o0 hf
  · have hf := oF hc hf
    refine lv_iconst (v := (0 : Int32)) E.hx E.hb dL_law_2314 ic_0 ?_
    exact o0 hf
def f_law_43 (n : Nat) (L : Nat) (xs : Nat → Int32) (v4 : Int32) (sv_0 : Value) (p1_0 : OS) (p1in_0 : OS) (p1ou_0 : OS) (p1ru_0 : OS) (p1no_0 : OS) (p1fo_0 : OS) (p1rd_0 : OS) (p1rr_0 : OS) (p1pa_0 : PS) (p2_0 : OS) (p3_0 : Nat → Int64) (so_0 : Option OS) : Option LST :=
  gI L (v4 + (1 : Int32)) (Let (xs (v4 + (1 : Int32)).toNatClampNeg) (fun x_1 : Int32 =>
  bnd3 (f_L_printProcess n sv_0 p1_0 1024 p1ou_0 p1ru_0 p1no_0 1 p3_0 x_1) (fun (p1ou_2 : OS) (p3_3 : Nat → Int64) (r_4 : Int32) =>
  gI L (v4 + (1 : Int32)) (Let (xs (v4 + (1 : Int32)).toNatClampNeg) (fun x_5 : Int32 =>
  bnd2 (f_X9_printProcess n p2_0 x_5) (fun (p2_6 : OS) (r_7 : Int32) =>
  bnd (f_X9_thrown n p2_6) (fun (r_8 : Int32) =>
  if r_8 = r_4 then (
  if r_4 = 0 then (
  gI 1 (0 : Int32) (Let (p3_3 (0 : Int32).toNatClampNeg) (fun x_9 : Int64 =>
  if (lg_cmp x_9 ((r_7).toInt64)) = 0 then (
  some (p1_0, p1in_0, p1ou_2, p1ru_0, p1no_0, p1fo_0, p1rd_0, p1rr_0, p1pa_0, p2_6, p3_3, so_0)) else (
  none)))) else (
  some (p1_0, p1in_0, p1ou_2, p1ru_0, p1no_0, p1fo_0, p1rd_0, p1rr_0, p1pa_0, p2_6, p3_3, so_0))) else (
  none))))))))
set_option maxHeartbeats 4000000 in
set_option maxRecDepth 100000 in
theorem c_law_43 {p : Program} {l : Launch} {e : Env} {s : State} {m : MethodId} {below : List Frame} {meth : Method} {c : Code} {A : Nat → Prop} {Q : State → Prop} {b L : Nat} {xs : Nat → Int32} {k : KT} (n : Nat) (hE : EH k) (hx : XH l k) (hN : CCH k) (E : E0 p s m c cL_law 9 RL k A) (hX : va_X b L xs s s.heap) (hbl : b < s.heap.size) (hbA : ¬ A b) (hA : ∀ q : Nat, s.heap.size ≤ q → A q) (a_p1 : Nat → Nat) (a_p1in : Nat → Nat) (a_p1ou : Nat → Nat) (a_p1ru : Nat → Nat) (a_p1no : Nat → Nat) (a_p1fo : Nat → Nat) (a_p1rd : Nat → Nat) (a_p1rr : Nat → Nat) (a_p1pa : Nat → Nat) (a_p2 : Nat → Nat) (a_p3 : Nat → Nat) (pp_0 : Nat → Nat → Nat) (sa_0 : Nat → Nat) (v4 : Int32) (p1_0 : OS) (p1in_0 : OS) (p1ou_0 : OS) (p1ru_0 : OS) (p1no_0 : OS) (p1fo_0 : OS) (p1rd_0 : OS) (p1rr_0 : OS) (p1pa_0 : PS) (p2_0 : OS) (p3_0 : Nat → Int64) (so_0 : Option OS) (res : LST) (hf : f_law_43 n L xs v4 (svV sa_0 so_0) p1_0 p1in_0 p1ou_0 p1ru_0 p1no_0 p1fo_0 p1rd_0 p1rr_0 p1pa_0 p2_0 p3_0 so_0 = some res)
    (H : Heap) (locs : List Loc) (ls : Array Slot) (c0 s0 : Nat) (hc0 : c0 + 40 ≤ 601024) (hs0 : s0 + 8000 ≤ 7293034) (hW : WD k A s.heap ((List.flatten [wMCo k a_p1 (a_p1in 0) (a_p1ou 0) (a_p1ru 0) (a_p1no 0) (a_p1fo 0) (a_p1rd 0) (a_p1pa 0) (svV sa_0 so_0) p1_0, wBytes k a_p1in 600 p1in_0, wBytes k a_p1ou 1024 p1ou_0, wRules k a_p1ru p1ru_0, wCourt k a_p1no p1no_0, wCourt k a_p1fo p1fo_0, wReader k a_p1rd (a_p1in 0) (a_p1fo 0) (a_p1rr 0) p1rd_0, wRules k a_p1rr p1rr_0, wPast k a_p1pa pp_0 p1pa_0, wModel k a_p2 p2_0, wJArr k a_p3 1 p3_0] ++ savW k sa_0 so_0) ++ poolW k pp_0 p1pa_0.2) H locs) (hl : lv_has ls 9 [(0, .ref b), (1, .ref (a_p1 0)), (2, .ref (a_p2 0)), (3, .ref (a_p3 0)), (4, .int v4)])
    (hgo : ∀ (pp : Nat → Nat → Nat) (sa : Nat → Nat) (H : Heap) (locs : List Loc) (ls : Array Slot) (cells slots : Nat), cells ≤ c0 + 40 → slots ≤ s0 + 8000 → WD k A s.heap ((List.flatten [wMCo k a_p1 (a_p1in 0) (a_p1ou 0) (a_p1ru 0) (a_p1no 0) (a_p1fo 0) (a_p1rd 0) (a_p1pa 0) (svV sa (res.2.2.2.2.2.2.2.2.2.2.2)) (res.1), wBytes k a_p1in 600 (res.2.1), wBytes k a_p1ou 1024 (res.2.2.1), wRules k a_p1ru (res.2.2.2.1), wCourt k a_p1no (res.2.2.2.2.1), wCourt k a_p1fo (res.2.2.2.2.2.1), wReader k a_p1rd (a_p1in 0) (a_p1fo 0) (a_p1rr 0) (res.2.2.2.2.2.2.1), wRules k a_p1rr (res.2.2.2.2.2.2.2.1), wPast k a_p1pa pp (res.2.2.2.2.2.2.2.2.1), wModel k a_p2 (res.2.2.2.2.2.2.2.2.2.1), wJArr k a_p3 1 (res.2.2.2.2.2.2.2.2.2.2.1)] ++ savW k sa (res.2.2.2.2.2.2.2.2.2.2.2)) ++ poolW k pp (res.2.2.2.2.2.2.2.2.1).2) H locs → lv_has ls 9 [(0, .ref b), (1, .ref (a_p1 0)), (2, .ref (a_p2 0)), (3, .ref (a_p3 0)), (4, .int v4)] → W p l e room_1 s m #[Value.ref b] below meth c H locs cells slots Q (F0 m 2474 ls [])) :
    W p l e room_1 s m #[Value.ref b] below meth c H locs c0 s0 Q (F0 m 2336 ls []) := by
  unfold f_law_43 at hf
  refine k_aload_n E hl 1 dL_law_2336 rfl ?_
  refine k_aload_n E hl 0 dL_law_2337 rfl ?_
  refine k_iload E hl 4 dL_law_2338 rfl ?_
  refine lv_iconst (v := (1 : Int32)) E.hx E.hb dL_law_2340 ic_1 ?_
  refine lv_iadd E.hx E.hb dL_law_2341 ?_
  obtain ⟨hin, hf⟩ := oI hf
  obtain ⟨x_1, ex_1, hf⟩ := oL hf
  refine va_sld E.hx E.hb hX hbl hbA hW.2.2 hin dL_law_2342 ?_
  refine k_topi ex_1 ?_
  refine k_aload_n E hl 3 dL_law_2343 rfl ?_
  obtain ⟨p1ou_2, p3_3, r_4, hg, hf⟩ := ob3 hf
  refine k_callSXi (As := [.ref (a_p1 0), .int x_1, .ref (a_p3 0)]) (rest := []) (ws2 := fun u => (List.flatten [wMCo k a_p1 (a_p1in 0) (a_p1ou 0) (a_p1ru 0) (a_p1no 0) (a_p1fo 0) (a_p1rd 0) (a_p1pa 0) (svV sa_0 so_0) p1_0, wBytes k a_p1in 600 p1in_0, wBytes k a_p1ou 1024 (u.1), wRules k a_p1ru p1ru_0, wCourt k a_p1no p1no_0, wCourt k a_p1fo p1fo_0, wReader k a_p1rd (a_p1in 0) (a_p1fo 0) (a_p1rr 0) p1rd_0, wRules k a_p1rr p1rr_0, wPast k a_p1pa pp_0 p1pa_0, wModel k a_p2 p2_0, wJArr k a_p3 1 (u.2)] ++ savW k sa_0 so_0) ++ poolW k pp_0 p1pa_0.2) (c_L_printProcess n l k hN hx a_p1 a_p1in a_p1ou a_p1ru a_p1no a_p1fo a_p1rd a_p1pa a_p3 (svV sa_0 so_0) p1_0 1024 p1ou_0 p1ru_0 p1no_0 1 p3_0 x_1 (p1ou_2, p3_3, r_4) hg) E sw_273 rfl dL_law_2344 rfl (posOf [1, 2, 2, 3, 12, 12, 1, 3, 2, 13, 1] [0, 2, 3, 4, 10]) hW hA hl rfl (law_map (ln := [1, 2, 2, 3, 12, 12, 1, 3, 2, 13, 1]) (is := [0, 2, 3, 4, 10]) (cs := [wMCo k a_p1 (a_p1in 0) (a_p1ou 0) (a_p1ru 0) (a_p1no 0) (a_p1fo 0) (a_p1rd 0) (a_p1pa 0) (svV sa_0 so_0) p1_0, wBytes k a_p1ou 1024 p1ou_0, wRules k a_p1ru p1ru_0, wCourt k a_p1no p1no_0, wJArr k a_p3 1 p3_0]) (fl5 _ _ _ _ _) rfl (by decide) rfl) ⟨Nat.le_of_ble_eq_true rfl, Nat.le_of_ble_eq_true rfl⟩ ⟨by show _ ≤ 601024; omega, by show _ ≤ 7293034; omega⟩ (Nat.le_of_ble_eq_true rfl) rfl (fun _ => rfl) (fun u => law_put (ln := [1, 2, 2, 3, 12, 12, 1, 3, 2, 13, 1]) (is := [0, 2, 3, 4, 10]) (cs0 := [wMCo k a_p1 (a_p1in 0) (a_p1ou 0) (a_p1ru 0) (a_p1no 0) (a_p1fo 0) (a_p1rd 0) (a_p1pa 0) (svV sa_0 so_0) p1_0, wBytes k a_p1ou 1024 p1ou_0, wRules k a_p1ru p1ru_0, wCourt k a_p1no p1no_0, wJArr k a_p3 1 p3_0]) (cs := [wMCo k a_p1 (a_p1in 0) (a_p1ou 0) (a_p1ru 0) (a_p1no 0) (a_p1fo 0) (a_p1rd 0) (a_p1pa 0) (svV sa_0 so_0) p1_0, wBytes k a_p1ou 1024 (u.1), wRules k a_p1ru p1ru_0, wCourt k a_p1no p1no_0, wJArr k a_p3 1 (u.2)]) (fl5 _ _ _ _ _) rfl (by decide) rfl rfl) (fun r u H locs hp hW => ?_)
  obtain ⟨u0, u1⟩ := u
  try dsimp only at hp
  cases hp
  have hW : WD k A s.heap ((List.flatten [wMCo k a_p1 (a_p1in 0) (a_p1ou 0) (a_p1ru 0) (a_p1no 0) (a_p1fo 0) (a_p1rd 0) (a_p1pa 0) (svV sa_0 so_0) p1_0, wBytes k a_p1in 600 p1in_0, wBytes k a_p1ou 1024 p1ou_2, wRules k a_p1ru p1ru_0, wCourt k a_p1no p1no_0, wCourt k a_p1fo p1fo_0, wReader k a_p1rd (a_p1in 0) (a_p1fo 0) (a_p1rr 0) p1rd_0, wRules k a_p1rr p1rr_0, wPast k a_p1pa pp_0 p1pa_0, wModel k a_p2 p2_0, wJArr k a_p3 1 p3_3] ++ savW k sa_0 so_0) ++ poolW k pp_0 p1pa_0.2) H locs := hW
  refine k_istore (lv' := [(5, .int r_4), (0, .ref b), (1, .ref (a_p1 0)), (2, .ref (a_p2 0)), (3, .ref (a_p3 0)), (4, .int v4)]) E rfl hl dL_law_2347 (by decide) rfl (fun ls hl => ?_)
  refine k_aload_n E hl 3 dL_law_2349 rfl ?_
  refine k_aload_n E hl 1 dL_law_2350 rfl ?_
  refine k_iload E hl 5 dL_law_2351 rfl ?_
  refine lv_iconst (v := (1 : Int32)) E.hx E.hb dL_law_2353 ic_1 ?_
  refine lv_iadd E.hx E.hb dL_law_2354 ?_
  obtain ⟨hin, hf⟩ := oI hf
  obtain ⟨x_5, ex_5, hf⟩ := oL hf
  refine va_sld E.hx E.hb hX hbl hbA hW.2.2 hin dL_law_2355 ?_
  refine k_topi ex_5 ?_
  obtain ⟨p2_6, r_7, hg, hf⟩ := ob2 hf
  refine k_callVi (As := [.int x_5]) (rest := []) (ws2 := fun u => (List.flatten [wMCo k a_p1 (a_p1in 0) (a_p1ou 0) (a_p1ru 0) (a_p1no 0) (a_p1fo 0) (a_p1rd 0) (a_p1pa 0) (svV sa_0 so_0) p1_0, wBytes k a_p1in 600 p1in_0, wBytes k a_p1ou 1024 p1ou_2, wRules k a_p1ru p1ru_0, wCourt k a_p1no p1no_0, wCourt k a_p1fo p1fo_0, wReader k a_p1rd (a_p1in 0) (a_p1fo 0) (a_p1rr 0) p1rd_0, wRules k a_p1rr p1rr_0, wPast k a_p1pa pp_0 p1pa_0, wModel k a_p2 (u), wJArr k a_p3 1 p3_3] ++ savW k sa_0 so_0) ++ poolW k pp_0 p1pa_0.2) (c_X9_printProcess n l k a_p2 p2_0 x_5 (p2_6, r_7) hg) E vl_L_275 dL_law_2356 rfl (posOf [1, 2, 2, 3, 12, 12, 1, 3, 2, 13, 1] [9]) 7 38 hW hA hl rfl (law_map (ln := [1, 2, 2, 3, 12, 12, 1, 3, 2, 13, 1]) (is := [9]) (cs := [wModel k a_p2 p2_0]) (fl1 _) rfl (by decide) rfl) rfl rfl ⟨Nat.le_of_ble_eq_true rfl, Nat.le_of_ble_eq_true rfl⟩ ⟨by show _ ≤ 601024; omega, by show _ ≤ 7293034; omega⟩ (Nat.le_of_ble_eq_true rfl) rfl (fun _ => rfl) (fun u => law_put (ln := [1, 2, 2, 3, 12, 12, 1, 3, 2, 13, 1]) (is := [9]) (cs0 := [wModel k a_p2 p2_0]) (cs := [wModel k a_p2 (u)]) (fl1 _) rfl (by decide) rfl rfl) (fun r u H locs hp hW => ?_)
  cases hp
  have hW : WD k A s.heap ((List.flatten [wMCo k a_p1 (a_p1in 0) (a_p1ou 0) (a_p1ru 0) (a_p1no 0) (a_p1fo 0) (a_p1rd 0) (a_p1pa 0) (svV sa_0 so_0) p1_0, wBytes k a_p1in 600 p1in_0, wBytes k a_p1ou 1024 p1ou_2, wRules k a_p1ru p1ru_0, wCourt k a_p1no p1no_0, wCourt k a_p1fo p1fo_0, wReader k a_p1rd (a_p1in 0) (a_p1fo 0) (a_p1rr 0) p1rd_0, wRules k a_p1rr p1rr_0, wPast k a_p1pa pp_0 p1pa_0, wModel k a_p2 p2_6, wJArr k a_p3 1 p3_3] ++ savW k sa_0 so_0) ++ poolW k pp_0 p1pa_0.2) H locs := hW
  refine k_istore (lv' := [(6, .int r_7), (5, .int r_4), (0, .ref b), (1, .ref (a_p1 0)), (2, .ref (a_p2 0)), (3, .ref (a_p3 0)), (4, .int v4)]) E rfl hl dL_law_2359 (by decide) rfl (fun ls hl => ?_)
  refine k_aload_n E hl 4 dL_law_2361 rfl ?_
  obtain ⟨r_8, hg, hf⟩ := ob hf
  refine k_callVi (As := []) (rest := []) (ws2 := fun u => (List.flatten [wMCo k a_p1 (a_p1in 0) (a_p1ou 0) (a_p1ru 0) (a_p1no 0) (a_p1fo 0) (a_p1rd 0) (a_p1pa 0) (svV sa_0 so_0) p1_0, wBytes k a_p1in 600 p1in_0, wBytes k a_p1ou 1024 p1ou_2, wRules k a_p1ru p1ru_0, wCourt k a_p1no p1no_0, wCourt k a_p1fo p1fo_0, wReader k a_p1rd (a_p1in 0) (a_p1fo 0) (a_p1rr 0) p1rd_0, wRules k a_p1rr p1rr_0, wPast k a_p1pa pp_0 p1pa_0, wModel k a_p2 p2_6, wJArr k a_p3 1 p3_3] ++ savW k sa_0 so_0) ++ poolW k pp_0 p1pa_0.2) (c_X9_thrown n l k a_p2 p2_6 r_8 hg) E vl_L_152 dL_law_2362 rfl (posOf [1, 2, 2, 3, 12, 12, 1, 3, 2, 13, 1] [9]) 7 38 hW hA hl rfl (law_map (ln := [1, 2, 2, 3, 12, 12, 1, 3, 2, 13, 1]) (is := [9]) (cs := [wModel k a_p2 p2_6]) (fl1 _) rfl (by decide) rfl) rfl rfl ⟨Nat.le_of_ble_eq_true rfl, Nat.le_of_ble_eq_true rfl⟩ ⟨by show _ ≤ 601024; omega, by show _ ≤ 7293034; omega⟩ (Nat.le_of_ble_eq_true rfl) rfl (fun _ => rfl) (fun u => law_put (ln := [1, 2, 2, 3, 12, 12, 1, 3, 2, 13, 1]) (is := [9]) (cs0 := [wModel k a_p2 p2_6]) (cs := [wModel k a_p2 p2_6]) (fl1 _) rfl (by decide) rfl rfl) (fun r u H locs hp hW => ?_)
  cases hp
  have hW : WD k A s.heap ((List.flatten [wMCo k a_p1 (a_p1in 0) (a_p1ou 0) (a_p1ru 0) (a_p1no 0) (a_p1fo 0) (a_p1rd 0) (a_p1pa 0) (svV sa_0 so_0) p1_0, wBytes k a_p1in 600 p1in_0, wBytes k a_p1ou 1024 p1ou_2, wRules k a_p1ru p1ru_0, wCourt k a_p1no p1no_0, wCourt k a_p1fo p1fo_0, wReader k a_p1rd (a_p1in 0) (a_p1fo 0) (a_p1rr 0) p1rd_0, wRules k a_p1rr p1rr_0, wPast k a_p1pa pp_0 p1pa_0, wModel k a_p2 p2_6, wJArr k a_p3 1 p3_3] ++ savW k sa_0 so_0) ++ poolW k pp_0 p1pa_0.2) H locs := hW
  refine k_iload E hl 1 dL_law_2365 rfl ?_
  refine lv_icmp_eq (tgt := 2372) E.hx E.hb dL_law_2367 (by decide) (fun hc => ?_) (fun hc => ?_)
  · have hf := oT hc hf
    refine k_iload E hl 1 dL_law_2372 rfl ?_
    refine lv_if_ne (tgt := 2389) E.hx E.hb dL_law_2374 (by decide) (fun hc => ?_) (fun hc => ?_)
    · have hf := oF hc hf
      refine lv_goto (tgt := 2474) E.hx E.hb dL_law_2389 (by decide) ?_
      exact hgo pp_0 sa_0 _ _ _ _ _ (by omega) (by omega) (by cases hf; exact hW) (lv_sub hl [2, 3, 4, 5, 6] rfl)
    · have hf := oT hc hf
      refine k_aload_n E hl 5 dL_law_2377 rfl ?_
      refine lv_iconst (v := (0 : Int32)) E.hx E.hb dL_law_2378 ic_0 ?_
      obtain ⟨hin, hf⟩ := oI hf
      obtain ⟨x_9, ex_9, hf⟩ := oL hf
      refine k_lald E hW 51 rfl hin dL_law_2379 ?_
      refine k_topl ex_9 ?_
      refine k_iload E hl 0 dL_law_2380 rfl ?_
      refine lv_i2l (v := (r_7).toInt64) E.hx E.hb dL_law_2382 rfl ?_
      refine W.lcmp E.hx E.hb dL_law_2383 ?_
      refine lv_if_eq (tgt := 2389) E.hx E.hb dL_law_2384 (by decide) (fun hc => ?_) (fun hc => ?_)
      · have hf := oT hc hf
        refine lv_goto (tgt := 2474) E.hx E.hb dL_law_2389 (by decide) ?_
        exact hgo pp_0 sa_0 _ _ _ _ _ (by omega) (by omega) (by cases hf; exact hW) (lv_sub hl [2, 3, 4, 5, 6] rfl)
      · have hf := oF hc hf
        refine lv_iconst (v := (0 : Int32)) E.hx E.hb dL_law_2387 ic_0 ?_
        exact o0 hf
  · have hf := oF hc hf
    refine lv_iconst (v := (0 : Int32)) E.hx E.hb dL_law_2370 ic_0 ?_
    exact o0 hf
def f_law_44 (n : Nat) (L : Nat) (xs : Nat → Int32) (v4 : Int32) (sv_0 : Value) (p1_0 : OS) (p1in_0 : OS) (p1ou_0 : OS) (p1ru_0 : OS) (p1no_0 : OS) (p1fo_0 : OS) (p1rd_0 : OS) (p1rr_0 : OS) (p1pa_0 : PS) (p2_0 : OS) (p3_0 : Nat → Int64) (so_0 : Option OS) : Option LST :=
  gI L (v4 + (1 : Int32)) (Let (xs (v4 + (1 : Int32)).toNatClampNeg) (fun x_1 : Int32 =>
  bnd (f_X8_outputByte n sv_0 p1_0 1024 p1ou_0 x_1) (fun (r_2 : Int32) =>
  gI L (v4 + (1 : Int32)) (Let (xs (v4 + (1 : Int32)).toNatClampNeg) (fun x_3 : Int32 =>
  bnd2 (f_X9_outputByte n p2_0 x_3) (fun (p2_4 : OS) (r_5 : Int32) =>
  if r_2 = r_5 then (
  some (p1_0, p1in_0, p1ou_0, p1ru_0, p1no_0, p1fo_0, p1rd_0, p1rr_0, p1pa_0, p2_4, p3_0, so_0)) else (
  none)))))))
set_option maxHeartbeats 4000000 in
set_option maxRecDepth 100000 in
theorem c_law_44 {p : Program} {l : Launch} {e : Env} {s : State} {m : MethodId} {below : List Frame} {meth : Method} {c : Code} {A : Nat → Prop} {Q : State → Prop} {b L : Nat} {xs : Nat → Int32} {k : KT} (n : Nat) (hE : EH k) (hx : XH l k) (hN : CCH k) (E : E0 p s m c cL_law 9 RL k A) (hX : va_X b L xs s s.heap) (hbl : b < s.heap.size) (hbA : ¬ A b) (hA : ∀ q : Nat, s.heap.size ≤ q → A q) (a_p1 : Nat → Nat) (a_p1in : Nat → Nat) (a_p1ou : Nat → Nat) (a_p1ru : Nat → Nat) (a_p1no : Nat → Nat) (a_p1fo : Nat → Nat) (a_p1rd : Nat → Nat) (a_p1rr : Nat → Nat) (a_p1pa : Nat → Nat) (a_p2 : Nat → Nat) (a_p3 : Nat → Nat) (pp_0 : Nat → Nat → Nat) (sa_0 : Nat → Nat) (v4 : Int32) (p1_0 : OS) (p1in_0 : OS) (p1ou_0 : OS) (p1ru_0 : OS) (p1no_0 : OS) (p1fo_0 : OS) (p1rd_0 : OS) (p1rr_0 : OS) (p1pa_0 : PS) (p2_0 : OS) (p3_0 : Nat → Int64) (so_0 : Option OS) (res : LST) (hf : f_law_44 n L xs v4 (svV sa_0 so_0) p1_0 p1in_0 p1ou_0 p1ru_0 p1no_0 p1fo_0 p1rd_0 p1rr_0 p1pa_0 p2_0 p3_0 so_0 = some res)
    (H : Heap) (locs : List Loc) (ls : Array Slot) (c0 s0 : Nat) (hc0 : c0 + 40 ≤ 601024) (hs0 : s0 + 8000 ≤ 7293034) (hW : WD k A s.heap ((List.flatten [wMCo k a_p1 (a_p1in 0) (a_p1ou 0) (a_p1ru 0) (a_p1no 0) (a_p1fo 0) (a_p1rd 0) (a_p1pa 0) (svV sa_0 so_0) p1_0, wBytes k a_p1in 600 p1in_0, wBytes k a_p1ou 1024 p1ou_0, wRules k a_p1ru p1ru_0, wCourt k a_p1no p1no_0, wCourt k a_p1fo p1fo_0, wReader k a_p1rd (a_p1in 0) (a_p1fo 0) (a_p1rr 0) p1rd_0, wRules k a_p1rr p1rr_0, wPast k a_p1pa pp_0 p1pa_0, wModel k a_p2 p2_0, wJArr k a_p3 1 p3_0] ++ savW k sa_0 so_0) ++ poolW k pp_0 p1pa_0.2) H locs) (hl : lv_has ls 9 [(0, .ref b), (1, .ref (a_p1 0)), (2, .ref (a_p2 0)), (3, .ref (a_p3 0)), (4, .int v4)])
    (hgo : ∀ (pp : Nat → Nat → Nat) (sa : Nat → Nat) (H : Heap) (locs : List Loc) (ls : Array Slot) (cells slots : Nat), cells ≤ c0 + 40 → slots ≤ s0 + 8000 → WD k A s.heap ((List.flatten [wMCo k a_p1 (a_p1in 0) (a_p1ou 0) (a_p1ru 0) (a_p1no 0) (a_p1fo 0) (a_p1rd 0) (a_p1pa 0) (svV sa (res.2.2.2.2.2.2.2.2.2.2.2)) (res.1), wBytes k a_p1in 600 (res.2.1), wBytes k a_p1ou 1024 (res.2.2.1), wRules k a_p1ru (res.2.2.2.1), wCourt k a_p1no (res.2.2.2.2.1), wCourt k a_p1fo (res.2.2.2.2.2.1), wReader k a_p1rd (a_p1in 0) (a_p1fo 0) (a_p1rr 0) (res.2.2.2.2.2.2.1), wRules k a_p1rr (res.2.2.2.2.2.2.2.1), wPast k a_p1pa pp (res.2.2.2.2.2.2.2.2.1), wModel k a_p2 (res.2.2.2.2.2.2.2.2.2.1), wJArr k a_p3 1 (res.2.2.2.2.2.2.2.2.2.2.1)] ++ savW k sa (res.2.2.2.2.2.2.2.2.2.2.2)) ++ poolW k pp (res.2.2.2.2.2.2.2.2.1).2) H locs → lv_has ls 9 [(0, .ref b), (1, .ref (a_p1 0)), (2, .ref (a_p2 0)), (3, .ref (a_p3 0)), (4, .int v4)] → W p l e room_1 s m #[Value.ref b] below meth c H locs cells slots Q (F0 m 2474 ls [])) :
    W p l e room_1 s m #[Value.ref b] below meth c H locs c0 s0 Q (F0 m 2392 ls []) := by
  unfold f_law_44 at hf
  refine k_aload_n E hl 1 dL_law_2392 rfl ?_
  refine k_aload_n E hl 0 dL_law_2393 rfl ?_
  refine k_iload E hl 4 dL_law_2394 rfl ?_
  refine lv_iconst (v := (1 : Int32)) E.hx E.hb dL_law_2396 ic_1 ?_
  refine lv_iadd E.hx E.hb dL_law_2397 ?_
  obtain ⟨hin, hf⟩ := oI hf
  obtain ⟨x_1, ex_1, hf⟩ := oL hf
  refine va_sld E.hx E.hb hX hbl hbA hW.2.2 hin dL_law_2398 ?_
  refine k_topi ex_1 ?_
  obtain ⟨r_2, hg, hf⟩ := ob hf
  refine k_callVi (As := [.int x_1]) (rest := []) (ws2 := fun u => (List.flatten [wMCo k a_p1 (a_p1in 0) (a_p1ou 0) (a_p1ru 0) (a_p1no 0) (a_p1fo 0) (a_p1rd 0) (a_p1pa 0) (svV sa_0 so_0) p1_0, wBytes k a_p1in 600 p1in_0, wBytes k a_p1ou 1024 p1ou_0, wRules k a_p1ru p1ru_0, wCourt k a_p1no p1no_0, wCourt k a_p1fo p1fo_0, wReader k a_p1rd (a_p1in 0) (a_p1fo 0) (a_p1rr 0) p1rd_0, wRules k a_p1rr p1rr_0, wPast k a_p1pa pp_0 p1pa_0, wModel k a_p2 p2_0, wJArr k a_p3 1 p3_0] ++ savW k sa_0 so_0) ++ poolW k pp_0 p1pa_0.2) (c_X8_outputByte n l k a_p1 a_p1in a_p1ou a_p1ru a_p1no a_p1fo a_p1rd a_p1pa (svV sa_0 so_0) p1_0 1024 p1ou_0 x_1 r_2 hg) E vl_L_276 dL_law_2399 rfl (posOf [1, 2, 2, 3, 12, 12, 1, 3, 2, 13, 1] [0, 2]) 6 0 hW hA hl rfl (law_map (ln := [1, 2, 2, 3, 12, 12, 1, 3, 2, 13, 1]) (is := [0, 2]) (cs := [wMCo k a_p1 (a_p1in 0) (a_p1ou 0) (a_p1ru 0) (a_p1no 0) (a_p1fo 0) (a_p1rd 0) (a_p1pa 0) (svV sa_0 so_0) p1_0, wBytes k a_p1ou 1024 p1ou_0]) (fl2 _ _) rfl (by decide) rfl) rfl rfl ⟨Nat.le_of_ble_eq_true rfl, Nat.le_of_ble_eq_true rfl⟩ ⟨by show _ ≤ 601024; omega, by show _ ≤ 7293034; omega⟩ (Nat.le_of_ble_eq_true rfl) rfl (fun _ => rfl) (fun u => law_put (ln := [1, 2, 2, 3, 12, 12, 1, 3, 2, 13, 1]) (is := [0, 2]) (cs0 := [wMCo k a_p1 (a_p1in 0) (a_p1ou 0) (a_p1ru 0) (a_p1no 0) (a_p1fo 0) (a_p1rd 0) (a_p1pa 0) (svV sa_0 so_0) p1_0, wBytes k a_p1ou 1024 p1ou_0]) (cs := [wMCo k a_p1 (a_p1in 0) (a_p1ou 0) (a_p1ru 0) (a_p1no 0) (a_p1fo 0) (a_p1rd 0) (a_p1pa 0) (svV sa_0 so_0) p1_0, wBytes k a_p1ou 1024 p1ou_0]) (fl2 _ _) rfl (by decide) rfl rfl) (fun r u H locs hp hW => ?_)
  cases hp
  have hW : WD k A s.heap ((List.flatten [wMCo k a_p1 (a_p1in 0) (a_p1ou 0) (a_p1ru 0) (a_p1no 0) (a_p1fo 0) (a_p1rd 0) (a_p1pa 0) (svV sa_0 so_0) p1_0, wBytes k a_p1in 600 p1in_0, wBytes k a_p1ou 1024 p1ou_0, wRules k a_p1ru p1ru_0, wCourt k a_p1no p1no_0, wCourt k a_p1fo p1fo_0, wReader k a_p1rd (a_p1in 0) (a_p1fo 0) (a_p1rr 0) p1rd_0, wRules k a_p1rr p1rr_0, wPast k a_p1pa pp_0 p1pa_0, wModel k a_p2 p2_0, wJArr k a_p3 1 p3_0] ++ savW k sa_0 so_0) ++ poolW k pp_0 p1pa_0.2) H locs := hW
  refine k_aload_n E hl 2 dL_law_2402 rfl ?_
  refine k_aload_n E hl 0 dL_law_2403 rfl ?_
  refine k_iload E hl 4 dL_law_2404 rfl ?_
  refine lv_iconst (v := (1 : Int32)) E.hx E.hb dL_law_2406 ic_1 ?_
  refine lv_iadd E.hx E.hb dL_law_2407 ?_
  obtain ⟨hin, hf⟩ := oI hf
  obtain ⟨x_3, ex_3, hf⟩ := oL hf
  refine va_sld E.hx E.hb hX hbl hbA hW.2.2 hin dL_law_2408 ?_
  refine k_topi ex_3 ?_
  obtain ⟨p2_4, r_5, hg, hf⟩ := ob2 hf
  refine k_callVi (As := [.int x_3]) (rest := [.int r_2]) (ws2 := fun u => (List.flatten [wMCo k a_p1 (a_p1in 0) (a_p1ou 0) (a_p1ru 0) (a_p1no 0) (a_p1fo 0) (a_p1rd 0) (a_p1pa 0) (svV sa_0 so_0) p1_0, wBytes k a_p1in 600 p1in_0, wBytes k a_p1ou 1024 p1ou_0, wRules k a_p1ru p1ru_0, wCourt k a_p1no p1no_0, wCourt k a_p1fo p1fo_0, wReader k a_p1rd (a_p1in 0) (a_p1fo 0) (a_p1rr 0) p1rd_0, wRules k a_p1rr p1rr_0, wPast k a_p1pa pp_0 p1pa_0, wModel k a_p2 (u), wJArr k a_p3 1 p3_0] ++ savW k sa_0 so_0) ++ poolW k pp_0 p1pa_0.2) (c_X9_outputByte n l k a_p2 p2_0 x_3 (p2_4, r_5) hg) E vl_L_279 dL_law_2409 rfl (posOf [1, 2, 2, 3, 12, 12, 1, 3, 2, 13, 1] [9]) 7 38 hW hA hl rfl (law_map (ln := [1, 2, 2, 3, 12, 12, 1, 3, 2, 13, 1]) (is := [9]) (cs := [wModel k a_p2 p2_0]) (fl1 _) rfl (by decide) rfl) rfl rfl ⟨Nat.le_of_ble_eq_true rfl, Nat.le_of_ble_eq_true rfl⟩ ⟨by show _ ≤ 601024; omega, by show _ ≤ 7293034; omega⟩ (Nat.le_of_ble_eq_true rfl) rfl (fun _ => rfl) (fun u => law_put (ln := [1, 2, 2, 3, 12, 12, 1, 3, 2, 13, 1]) (is := [9]) (cs0 := [wModel k a_p2 p2_0]) (cs := [wModel k a_p2 (u)]) (fl1 _) rfl (by decide) rfl rfl) (fun r u H locs hp hW => ?_)
  cases hp
  have hW : WD k A s.heap ((List.flatten [wMCo k a_p1 (a_p1in 0) (a_p1ou 0) (a_p1ru 0) (a_p1no 0) (a_p1fo 0) (a_p1rd 0) (a_p1pa 0) (svV sa_0 so_0) p1_0, wBytes k a_p1in 600 p1in_0, wBytes k a_p1ou 1024 p1ou_0, wRules k a_p1ru p1ru_0, wCourt k a_p1no p1no_0, wCourt k a_p1fo p1fo_0, wReader k a_p1rd (a_p1in 0) (a_p1fo 0) (a_p1rr 0) p1rd_0, wRules k a_p1rr p1rr_0, wPast k a_p1pa pp_0 p1pa_0, wModel k a_p2 p2_4, wJArr k a_p3 1 p3_0] ++ savW k sa_0 so_0) ++ poolW k pp_0 p1pa_0.2) H locs := hW
  refine lv_icmp_eq (tgt := 2474) E.hx E.hb dL_law_2412 (by decide) (fun hc => ?_) (fun hc => ?_)
  · have hf := oT hc hf
    exact hgo pp_0 sa_0 _ _ _ _ _ (by omega) (by omega) (by cases hf; exact hW) (lv_sub hl [0, 1, 2, 3, 4] rfl)
  · have hf := oF hc hf
    refine lv_iconst (v := (0 : Int32)) E.hx E.hb dL_law_2415 ic_0 ?_
    exact o0 hf
def f_law_45 (n : Nat) (L : Nat) (xs : Nat → Int32) (v4 : Int32) (sv_0 : Value) (p1_0 : OS) (p1in_0 : OS) (p1ou_0 : OS) (p1ru_0 : OS) (p1no_0 : OS) (p1fo_0 : OS) (p1rd_0 : OS) (p1rr_0 : OS) (p1pa_0 : PS) (p2_0 : OS) (p3_0 : Nat → Int64) (so_0 : Option OS) : Option LST :=
  bnd3 (f_X8_saveState n p1_0 p1no_0 so_0) (fun (p1_1 : OS) (so_2 : OS) (r_3 : Int32) =>
  bnd2 (f_X9_saveState n p2_0) (fun (p2_5 : OS) (r_6 : Int32) =>
  if r_3 = r_6 then (
  some (p1_1, p1in_0, p1ou_0, p1ru_0, p1no_0, p1fo_0, p1rd_0, p1rr_0, p1pa_0, p2_5, p3_0, (some so_2))) else (
  none)))
set_option maxHeartbeats 4000000 in
set_option maxRecDepth 100000 in
theorem c_law_45 {p : Program} {l : Launch} {e : Env} {s : State} {m : MethodId} {below : List Frame} {meth : Method} {c : Code} {A : Nat → Prop} {Q : State → Prop} {b L : Nat} {xs : Nat → Int32} {k : KT} (n : Nat) (hE : EH k) (hx : XH l k) (hN : CCH k) (E : E0 p s m c cL_law 9 RL k A) (hX : va_X b L xs s s.heap) (hbl : b < s.heap.size) (hbA : ¬ A b) (hA : ∀ q : Nat, s.heap.size ≤ q → A q) (a_p1 : Nat → Nat) (a_p1in : Nat → Nat) (a_p1ou : Nat → Nat) (a_p1ru : Nat → Nat) (a_p1no : Nat → Nat) (a_p1fo : Nat → Nat) (a_p1rd : Nat → Nat) (a_p1rr : Nat → Nat) (a_p1pa : Nat → Nat) (a_p2 : Nat → Nat) (a_p3 : Nat → Nat) (pp_0 : Nat → Nat → Nat) (sa_0 : Nat → Nat) (v4 : Int32) (p1_0 : OS) (p1in_0 : OS) (p1ou_0 : OS) (p1ru_0 : OS) (p1no_0 : OS) (p1fo_0 : OS) (p1rd_0 : OS) (p1rr_0 : OS) (p1pa_0 : PS) (p2_0 : OS) (p3_0 : Nat → Int64) (so_0 : Option OS) (res : LST) (hf : f_law_45 n L xs v4 (svV sa_0 so_0) p1_0 p1in_0 p1ou_0 p1ru_0 p1no_0 p1fo_0 p1rd_0 p1rr_0 p1pa_0 p2_0 p3_0 so_0 = some res)
    (H : Heap) (locs : List Loc) (ls : Array Slot) (c0 s0 : Nat) (hc0 : c0 + 40 ≤ 601024) (hs0 : s0 + 8000 ≤ 7293034) (hW : WD k A s.heap ((List.flatten [wMCo k a_p1 (a_p1in 0) (a_p1ou 0) (a_p1ru 0) (a_p1no 0) (a_p1fo 0) (a_p1rd 0) (a_p1pa 0) (svV sa_0 so_0) p1_0, wBytes k a_p1in 600 p1in_0, wBytes k a_p1ou 1024 p1ou_0, wRules k a_p1ru p1ru_0, wCourt k a_p1no p1no_0, wCourt k a_p1fo p1fo_0, wReader k a_p1rd (a_p1in 0) (a_p1fo 0) (a_p1rr 0) p1rd_0, wRules k a_p1rr p1rr_0, wPast k a_p1pa pp_0 p1pa_0, wModel k a_p2 p2_0, wJArr k a_p3 1 p3_0] ++ savW k sa_0 so_0) ++ poolW k pp_0 p1pa_0.2) H locs) (hl : lv_has ls 9 [(0, .ref b), (1, .ref (a_p1 0)), (2, .ref (a_p2 0)), (3, .ref (a_p3 0)), (4, .int v4)])
    (hgo : ∀ (pp : Nat → Nat → Nat) (sa : Nat → Nat) (H : Heap) (locs : List Loc) (ls : Array Slot) (cells slots : Nat), cells ≤ c0 + 40 → slots ≤ s0 + 8000 → WD k A s.heap ((List.flatten [wMCo k a_p1 (a_p1in 0) (a_p1ou 0) (a_p1ru 0) (a_p1no 0) (a_p1fo 0) (a_p1rd 0) (a_p1pa 0) (svV sa (res.2.2.2.2.2.2.2.2.2.2.2)) (res.1), wBytes k a_p1in 600 (res.2.1), wBytes k a_p1ou 1024 (res.2.2.1), wRules k a_p1ru (res.2.2.2.1), wCourt k a_p1no (res.2.2.2.2.1), wCourt k a_p1fo (res.2.2.2.2.2.1), wReader k a_p1rd (a_p1in 0) (a_p1fo 0) (a_p1rr 0) (res.2.2.2.2.2.2.1), wRules k a_p1rr (res.2.2.2.2.2.2.2.1), wPast k a_p1pa pp (res.2.2.2.2.2.2.2.2.1), wModel k a_p2 (res.2.2.2.2.2.2.2.2.2.1), wJArr k a_p3 1 (res.2.2.2.2.2.2.2.2.2.2.1)] ++ savW k sa (res.2.2.2.2.2.2.2.2.2.2.2)) ++ poolW k pp (res.2.2.2.2.2.2.2.2.1).2) H locs → lv_has ls 9 [(0, .ref b), (1, .ref (a_p1 0)), (2, .ref (a_p2 0)), (3, .ref (a_p3 0)), (4, .int v4)] → W p l e room_1 s m #[Value.ref b] below meth c H locs cells slots Q (F0 m 2474 ls [])) :
    W p l e room_1 s m #[Value.ref b] below meth c H locs c0 s0 Q (F0 m 2417 ls []) := by
  unfold f_law_45 at hf
  refine k_aload_n E hl 1 dL_law_2417 rfl ?_
  obtain ⟨p1_1, so_2, r_3, hg, hf⟩ := ob3 hf
  have hW := hW.swap
  refine k_callGi (As := []) (rest := []) (ws2 := fun u => (List.flatten [wMCo k a_p1 (a_p1in 0) (a_p1ou 0) (a_p1ru 0) (a_p1no 0) (a_p1fo 0) (a_p1rd 0) (a_p1pa 0) (svV (u.2.2) (some u.2.1)) (u.1), wBytes k a_p1in 600 p1in_0, wBytes k a_p1ou 1024 p1ou_0, wRules k a_p1ru p1ru_0, wCourt k a_p1no p1no_0, wCourt k a_p1fo p1fo_0, wReader k a_p1rd (a_p1in 0) (a_p1fo 0) (a_p1rr 0) p1rd_0, wRules k a_p1rr p1rr_0, wPast k a_p1pa pp_0 p1pa_0, wModel k a_p2 p2_0, wJArr k a_p3 1 p3_0] ++ poolW k pp_0 p1pa_0.2) ++ savW k (u.2.2) (some u.2.1)) (c_X8_saveState n l k a_p1 a_p1in a_p1ou a_p1ru a_p1no a_p1fo a_p1rd a_p1pa sa_0 p1_0 p1no_0 so_0 (p1_1, so_2, r_3) hg) E vl_L_280 dL_law_2418 rfl (posOf [1, 2, 2, 3, 12, 12, 1, 3, 2, 13, 1] [0, 4]) 6 0 hW hA hl rfl (law_mapG (cs := [wMCo k a_p1 (a_p1in 0) (a_p1ou 0) (a_p1ru 0) (a_p1no 0) (a_p1fo 0) (a_p1rd 0) (a_p1pa 0) (svV sa_0 so_0) p1_0, wCourt k a_p1no p1no_0]) (fl2 _ _) rfl (by decide) rfl) rfl rfl ⟨Nat.le_of_ble_eq_true rfl, Nat.le_of_ble_eq_true rfl⟩ ⟨by show _ ≤ 601024; omega, by show _ ≤ 7293034; omega⟩ (Nat.le_of_ble_eq_true rfl) rfl (fun _ => rfl) (fun u => law_putG (cs0 := [wMCo k a_p1 (a_p1in 0) (a_p1ou 0) (a_p1ru 0) (a_p1no 0) (a_p1fo 0) (a_p1rd 0) (a_p1pa 0) (svV sa_0 so_0) p1_0, wCourt k a_p1no p1no_0]) (cs := [wMCo k a_p1 (a_p1in 0) (a_p1ou 0) (a_p1ru 0) (a_p1no 0) (a_p1fo 0) (a_p1rd 0) (a_p1pa 0) (svV (u.2.2) (some u.2.1)) (u.1), wCourt k a_p1no p1no_0]) (fl2 _ _) rfl (by decide) rfl rfl) (fun r u H locs hp hW => ?_)
  obtain ⟨u0, u1, sa_4⟩ := u
  try dsimp only at hp
  cases hp
  have hW := hW.swap
  have hW : WD k A s.heap ((List.flatten [wMCo k a_p1 (a_p1in 0) (a_p1ou 0) (a_p1ru 0) (a_p1no 0) (a_p1fo 0) (a_p1rd 0) (a_p1pa 0) (svV sa_4 (some so_2)) p1_1, wBytes k a_p1in 600 p1in_0, wBytes k a_p1ou 1024 p1ou_0, wRules k a_p1ru p1ru_0, wCourt k a_p1no p1no_0, wCourt k a_p1fo p1fo_0, wReader k a_p1rd (a_p1in 0) (a_p1fo 0) (a_p1rr 0) p1rd_0, wRules k a_p1rr p1rr_0, wPast k a_p1pa pp_0 p1pa_0, wModel k a_p2 p2_0, wJArr k a_p3 1 p3_0] ++ savW k sa_4 (some so_2)) ++ poolW k pp_0 p1pa_0.2) H locs := hW
  refine k_aload_n E hl 2 dL_law_2421 rfl ?_
  obtain ⟨p2_5, r_6, hg, hf⟩ := ob2 hf
  refine k_callVi (As := []) (rest := [.int r_3]) (ws2 := fun u => (List.flatten [wMCo k a_p1 (a_p1in 0) (a_p1ou 0) (a_p1ru 0) (a_p1no 0) (a_p1fo 0) (a_p1rd 0) (a_p1pa 0) (svV sa_4 (some so_2)) p1_1, wBytes k a_p1in 600 p1in_0, wBytes k a_p1ou 1024 p1ou_0, wRules k a_p1ru p1ru_0, wCourt k a_p1no p1no_0, wCourt k a_p1fo p1fo_0, wReader k a_p1rd (a_p1in 0) (a_p1fo 0) (a_p1rr 0) p1rd_0, wRules k a_p1rr p1rr_0, wPast k a_p1pa pp_0 p1pa_0, wModel k a_p2 (u), wJArr k a_p3 1 p3_0] ++ savW k sa_4 (some so_2)) ++ poolW k pp_0 p1pa_0.2) (c_X9_saveState n l k a_p2 p2_0 (p2_5, r_6) hg) E vl_L_283 dL_law_2422 rfl (posOf [1, 2, 2, 3, 12, 12, 1, 3, 2, 13, 1] [9]) 7 38 hW hA hl rfl (law_map (ln := [1, 2, 2, 3, 12, 12, 1, 3, 2, 13, 1]) (is := [9]) (cs := [wModel k a_p2 p2_0]) (fl1 _) rfl (by decide) rfl) rfl rfl ⟨Nat.le_of_ble_eq_true rfl, Nat.le_of_ble_eq_true rfl⟩ ⟨by show _ ≤ 601024; omega, by show _ ≤ 7293034; omega⟩ (Nat.le_of_ble_eq_true rfl) rfl (fun _ => rfl) (fun u => law_put (ln := [1, 2, 2, 3, 12, 12, 1, 3, 2, 13, 1]) (is := [9]) (cs0 := [wModel k a_p2 p2_0]) (cs := [wModel k a_p2 (u)]) (fl1 _) rfl (by decide) rfl rfl) (fun r u H locs hp hW => ?_)
  cases hp
  have hW : WD k A s.heap ((List.flatten [wMCo k a_p1 (a_p1in 0) (a_p1ou 0) (a_p1ru 0) (a_p1no 0) (a_p1fo 0) (a_p1rd 0) (a_p1pa 0) (svV sa_4 (some so_2)) p1_1, wBytes k a_p1in 600 p1in_0, wBytes k a_p1ou 1024 p1ou_0, wRules k a_p1ru p1ru_0, wCourt k a_p1no p1no_0, wCourt k a_p1fo p1fo_0, wReader k a_p1rd (a_p1in 0) (a_p1fo 0) (a_p1rr 0) p1rd_0, wRules k a_p1rr p1rr_0, wPast k a_p1pa pp_0 p1pa_0, wModel k a_p2 p2_5, wJArr k a_p3 1 p3_0] ++ savW k sa_4 (some so_2)) ++ poolW k pp_0 p1pa_0.2) H locs := hW
  refine lv_icmp_eq (tgt := 2474) E.hx E.hb dL_law_2425 (by decide) (fun hc => ?_) (fun hc => ?_)
  · have hf := oT hc hf
    exact hgo pp_0 sa_4 _ _ _ _ _ (by omega) (by omega) (by cases hf; exact hW) (lv_sub hl [0, 1, 2, 3, 4] rfl)
  · have hf := oF hc hf
    refine lv_iconst (v := (0 : Int32)) E.hx E.hb dL_law_2428 ic_0 ?_
    exact o0 hf
def f_law_46 (n : Nat) (L : Nat) (xs : Nat → Int32) (v4 : Int32) (sv_0 : Value) (p1_0 : OS) (p1in_0 : OS) (p1ou_0 : OS) (p1ru_0 : OS) (p1no_0 : OS) (p1fo_0 : OS) (p1rd_0 : OS) (p1rr_0 : OS) (p1pa_0 : PS) (p2_0 : OS) (p3_0 : Nat → Int64) (so_0 : Option OS) : Option LST :=
  bnd4 (f_L_restoreState n p1_0 p1no_0 p1pa_0 so_0 p3_0) (fun (p1no_1 : OS) (p1pa_2 : PS) (p3_3 : Nat → Int64) (r_4 : Int32) =>
  bnd2 (f_X9_restoreState n p2_0) (fun (p2_5 : OS) (r_6 : Int32) =>
  bnd (f_X9_thrown n p2_5) (fun (r_7 : Int32) =>
  if r_7 = r_4 then (
  if r_4 = 0 then (
  gI 1 (0 : Int32) (Let (p3_3 (0 : Int32).toNatClampNeg) (fun x_8 : Int64 =>
  if (lg_cmp x_8 ((r_6).toInt64)) = 0 then (
  some (p1_0, p1in_0, p1ou_0, p1ru_0, p1no_1, p1fo_0, p1rd_0, p1rr_0, p1pa_2, p2_5, p3_3, so_0)) else (
  none)))) else (
  some (p1_0, p1in_0, p1ou_0, p1ru_0, p1no_1, p1fo_0, p1rd_0, p1rr_0, p1pa_2, p2_5, p3_3, so_0))) else (
  none))))
set_option maxHeartbeats 4000000 in
set_option maxRecDepth 100000 in
theorem c_law_46 {p : Program} {l : Launch} {e : Env} {s : State} {m : MethodId} {below : List Frame} {meth : Method} {c : Code} {A : Nat → Prop} {Q : State → Prop} {b L : Nat} {xs : Nat → Int32} {k : KT} (n : Nat) (hE : EH k) (hx : XH l k) (hN : CCH k) (E : E0 p s m c cL_law 9 RL k A) (hX : va_X b L xs s s.heap) (hbl : b < s.heap.size) (hbA : ¬ A b) (hA : ∀ q : Nat, s.heap.size ≤ q → A q) (a_p1 : Nat → Nat) (a_p1in : Nat → Nat) (a_p1ou : Nat → Nat) (a_p1ru : Nat → Nat) (a_p1no : Nat → Nat) (a_p1fo : Nat → Nat) (a_p1rd : Nat → Nat) (a_p1rr : Nat → Nat) (a_p1pa : Nat → Nat) (a_p2 : Nat → Nat) (a_p3 : Nat → Nat) (pp_0 : Nat → Nat → Nat) (sa_0 : Nat → Nat) (v4 : Int32) (p1_0 : OS) (p1in_0 : OS) (p1ou_0 : OS) (p1ru_0 : OS) (p1no_0 : OS) (p1fo_0 : OS) (p1rd_0 : OS) (p1rr_0 : OS) (p1pa_0 : PS) (p2_0 : OS) (p3_0 : Nat → Int64) (so_0 : Option OS) (res : LST) (hf : f_law_46 n L xs v4 (svV sa_0 so_0) p1_0 p1in_0 p1ou_0 p1ru_0 p1no_0 p1fo_0 p1rd_0 p1rr_0 p1pa_0 p2_0 p3_0 so_0 = some res)
    (H : Heap) (locs : List Loc) (ls : Array Slot) (c0 s0 : Nat) (hc0 : c0 + 40 ≤ 601024) (hs0 : s0 + 8000 ≤ 7293034) (hW : WD k A s.heap ((List.flatten [wMCo k a_p1 (a_p1in 0) (a_p1ou 0) (a_p1ru 0) (a_p1no 0) (a_p1fo 0) (a_p1rd 0) (a_p1pa 0) (svV sa_0 so_0) p1_0, wBytes k a_p1in 600 p1in_0, wBytes k a_p1ou 1024 p1ou_0, wRules k a_p1ru p1ru_0, wCourt k a_p1no p1no_0, wCourt k a_p1fo p1fo_0, wReader k a_p1rd (a_p1in 0) (a_p1fo 0) (a_p1rr 0) p1rd_0, wRules k a_p1rr p1rr_0, wPast k a_p1pa pp_0 p1pa_0, wModel k a_p2 p2_0, wJArr k a_p3 1 p3_0] ++ savW k sa_0 so_0) ++ poolW k pp_0 p1pa_0.2) H locs) (hl : lv_has ls 9 [(0, .ref b), (1, .ref (a_p1 0)), (2, .ref (a_p2 0)), (3, .ref (a_p3 0)), (4, .int v4)])
    (hgo : ∀ (pp : Nat → Nat → Nat) (sa : Nat → Nat) (H : Heap) (locs : List Loc) (ls : Array Slot) (cells slots : Nat), cells ≤ c0 + 40 → slots ≤ s0 + 8000 → WD k A s.heap ((List.flatten [wMCo k a_p1 (a_p1in 0) (a_p1ou 0) (a_p1ru 0) (a_p1no 0) (a_p1fo 0) (a_p1rd 0) (a_p1pa 0) (svV sa (res.2.2.2.2.2.2.2.2.2.2.2)) (res.1), wBytes k a_p1in 600 (res.2.1), wBytes k a_p1ou 1024 (res.2.2.1), wRules k a_p1ru (res.2.2.2.1), wCourt k a_p1no (res.2.2.2.2.1), wCourt k a_p1fo (res.2.2.2.2.2.1), wReader k a_p1rd (a_p1in 0) (a_p1fo 0) (a_p1rr 0) (res.2.2.2.2.2.2.1), wRules k a_p1rr (res.2.2.2.2.2.2.2.1), wPast k a_p1pa pp (res.2.2.2.2.2.2.2.2.1), wModel k a_p2 (res.2.2.2.2.2.2.2.2.2.1), wJArr k a_p3 1 (res.2.2.2.2.2.2.2.2.2.2.1)] ++ savW k sa (res.2.2.2.2.2.2.2.2.2.2.2)) ++ poolW k pp (res.2.2.2.2.2.2.2.2.1).2) H locs → lv_has ls 9 [(0, .ref b), (1, .ref (a_p1 0)), (2, .ref (a_p2 0)), (3, .ref (a_p3 0)), (4, .int v4)] → W p l e room_1 s m #[Value.ref b] below meth c H locs cells slots Q (F0 m 2474 ls [])) :
    W p l e room_1 s m #[Value.ref b] below meth c H locs c0 s0 Q (F0 m 2430 ls []) := by
  unfold f_law_46 at hf
  refine k_aload_n E hl 1 dL_law_2430 rfl ?_
  refine k_aload_n E hl 3 dL_law_2431 rfl ?_
  obtain ⟨p1no_1, p1pa_2, p3_3, r_4, hg, hf⟩ := ob4 hf
  have hpl := pl_restore hg
  have hW := hW.swap
  refine k_callSXGi (As := [.ref (a_p1 0), .ref (a_p3 0)]) (rest := []) (ws2 := fun u => (List.flatten [wMCo k a_p1 (a_p1in 0) (a_p1ou 0) (a_p1ru 0) (a_p1no 0) (a_p1fo 0) (a_p1rd 0) (a_p1pa 0) (svV sa_0 so_0) p1_0, wBytes k a_p1in 600 p1in_0, wBytes k a_p1ou 1024 p1ou_0, wRules k a_p1ru p1ru_0, wCourt k a_p1no (u.1), wCourt k a_p1fo p1fo_0, wReader k a_p1rd (a_p1in 0) (a_p1fo 0) (a_p1rr 0) p1rd_0, wRules k a_p1rr p1rr_0, wPast k a_p1pa pp_0 (u.2.1), wModel k a_p2 p2_0, wJArr k a_p3 1 (u.2.2)] ++ poolW k pp_0 p1pa_0.2) ++ savW k sa_0 so_0) (c_L_restoreState n l k hN hx a_p1 a_p1in a_p1ou a_p1ru a_p1no a_p1fo a_p1rd a_p1pa a_p3 pp_0 sa_0 p1_0 p1no_0 p1pa_0 so_0 p3_0 (p1no_1, p1pa_2, p3_3, r_4) hg) E sw_284 rfl dL_law_2432 rfl (posOf [1, 2, 2, 3, 12, 12, 1, 3, 2, 13, 1] [0, 4, 8, 10]) hW hA hl rfl (law_mapG (cs := [wMCo k a_p1 (a_p1in 0) (a_p1ou 0) (a_p1ru 0) (a_p1no 0) (a_p1fo 0) (a_p1rd 0) (a_p1pa 0) (svV sa_0 so_0) p1_0, wCourt k a_p1no p1no_0, wPast k a_p1pa pp_0 p1pa_0, wJArr k a_p3 1 p3_0]) (fl4 _ _ _ _) rfl (by decide) rfl) ⟨Nat.le_of_ble_eq_true rfl, Nat.le_of_ble_eq_true rfl⟩ ⟨by show _ ≤ 601024; omega, by show _ ≤ 7293034; omega⟩ (Nat.le_of_ble_eq_true rfl) rfl (fun _ => rfl) (fun u => law_putG (cs0 := [wMCo k a_p1 (a_p1in 0) (a_p1ou 0) (a_p1ru 0) (a_p1no 0) (a_p1fo 0) (a_p1rd 0) (a_p1pa 0) (svV sa_0 so_0) p1_0, wCourt k a_p1no p1no_0, wPast k a_p1pa pp_0 p1pa_0, wJArr k a_p3 1 p3_0]) (cs := [wMCo k a_p1 (a_p1in 0) (a_p1ou 0) (a_p1ru 0) (a_p1no 0) (a_p1fo 0) (a_p1rd 0) (a_p1pa 0) (svV sa_0 so_0) p1_0, wCourt k a_p1no (u.1), wPast k a_p1pa pp_0 (u.2.1), wJArr k a_p3 1 (u.2.2)]) (fl4 _ _ _ _) rfl (by decide) rfl rfl) (fun r u H locs hp hW => ?_)
  obtain ⟨u0, u1, u2⟩ := u
  try dsimp only at hp
  cases hp
  have hW := hW.swap
  have hW : WD k A s.heap ((List.flatten [wMCo k a_p1 (a_p1in 0) (a_p1ou 0) (a_p1ru 0) (a_p1no 0) (a_p1fo 0) (a_p1rd 0) (a_p1pa 0) (svV sa_0 so_0) p1_0, wBytes k a_p1in 600 p1in_0, wBytes k a_p1ou 1024 p1ou_0, wRules k a_p1ru p1ru_0, wCourt k a_p1no p1no_1, wCourt k a_p1fo p1fo_0, wReader k a_p1rd (a_p1in 0) (a_p1fo 0) (a_p1rr 0) p1rd_0, wRules k a_p1rr p1rr_0, wPast k a_p1pa pp_0 p1pa_2, wModel k a_p2 p2_0, wJArr k a_p3 1 p3_3] ++ savW k sa_0 so_0) ++ poolW k pp_0 p1pa_2.2) H locs := by rw [hpl]; exact hW
  refine k_istore (lv' := [(5, .int r_4), (0, .ref b), (1, .ref (a_p1 0)), (2, .ref (a_p2 0)), (3, .ref (a_p3 0)), (4, .int v4)]) E rfl hl dL_law_2435 (by decide) rfl (fun ls hl => ?_)
  refine k_aload_n E hl 3 dL_law_2437 rfl ?_
  obtain ⟨p2_5, r_6, hg, hf⟩ := ob2 hf
  refine k_callVi (As := []) (rest := []) (ws2 := fun u => (List.flatten [wMCo k a_p1 (a_p1in 0) (a_p1ou 0) (a_p1ru 0) (a_p1no 0) (a_p1fo 0) (a_p1rd 0) (a_p1pa 0) (svV sa_0 so_0) p1_0, wBytes k a_p1in 600 p1in_0, wBytes k a_p1ou 1024 p1ou_0, wRules k a_p1ru p1ru_0, wCourt k a_p1no p1no_1, wCourt k a_p1fo p1fo_0, wReader k a_p1rd (a_p1in 0) (a_p1fo 0) (a_p1rr 0) p1rd_0, wRules k a_p1rr p1rr_0, wPast k a_p1pa pp_0 p1pa_2, wModel k a_p2 (u), wJArr k a_p3 1 p3_3] ++ savW k sa_0 so_0) ++ poolW k pp_0 p1pa_2.2) (c_X9_restoreState n l k a_p2 p2_0 (p2_5, r_6) hg) E vl_L_286 dL_law_2438 rfl (posOf [1, 2, 2, 3, 12, 12, 1, 3, 2, 13, 1] [9]) 7 38 hW hA hl rfl (law_map (ln := [1, 2, 2, 3, 12, 12, 1, 3, 2, 13, 1]) (is := [9]) (cs := [wModel k a_p2 p2_0]) (fl1 _) rfl (by decide) rfl) rfl rfl ⟨Nat.le_of_ble_eq_true rfl, Nat.le_of_ble_eq_true rfl⟩ ⟨by show _ ≤ 601024; omega, by show _ ≤ 7293034; omega⟩ (Nat.le_of_ble_eq_true rfl) rfl (fun _ => rfl) (fun u => law_put (ln := [1, 2, 2, 3, 12, 12, 1, 3, 2, 13, 1]) (is := [9]) (cs0 := [wModel k a_p2 p2_0]) (cs := [wModel k a_p2 (u)]) (fl1 _) rfl (by decide) rfl rfl) (fun r u H locs hp hW => ?_)
  cases hp
  have hW : WD k A s.heap ((List.flatten [wMCo k a_p1 (a_p1in 0) (a_p1ou 0) (a_p1ru 0) (a_p1no 0) (a_p1fo 0) (a_p1rd 0) (a_p1pa 0) (svV sa_0 so_0) p1_0, wBytes k a_p1in 600 p1in_0, wBytes k a_p1ou 1024 p1ou_0, wRules k a_p1ru p1ru_0, wCourt k a_p1no p1no_1, wCourt k a_p1fo p1fo_0, wReader k a_p1rd (a_p1in 0) (a_p1fo 0) (a_p1rr 0) p1rd_0, wRules k a_p1rr p1rr_0, wPast k a_p1pa pp_0 p1pa_2, wModel k a_p2 p2_5, wJArr k a_p3 1 p3_3] ++ savW k sa_0 so_0) ++ poolW k pp_0 p1pa_2.2) H locs := hW
  refine k_istore (lv' := [(6, .int r_6), (5, .int r_4), (0, .ref b), (1, .ref (a_p1 0)), (2, .ref (a_p2 0)), (3, .ref (a_p3 0)), (4, .int v4)]) E rfl hl dL_law_2441 (by decide) rfl (fun ls hl => ?_)
  refine k_aload_n E hl 4 dL_law_2443 rfl ?_
  obtain ⟨r_7, hg, hf⟩ := ob hf
  refine k_callVi (As := []) (rest := []) (ws2 := fun u => (List.flatten [wMCo k a_p1 (a_p1in 0) (a_p1ou 0) (a_p1ru 0) (a_p1no 0) (a_p1fo 0) (a_p1rd 0) (a_p1pa 0) (svV sa_0 so_0) p1_0, wBytes k a_p1in 600 p1in_0, wBytes k a_p1ou 1024 p1ou_0, wRules k a_p1ru p1ru_0, wCourt k a_p1no p1no_1, wCourt k a_p1fo p1fo_0, wReader k a_p1rd (a_p1in 0) (a_p1fo 0) (a_p1rr 0) p1rd_0, wRules k a_p1rr p1rr_0, wPast k a_p1pa pp_0 p1pa_2, wModel k a_p2 p2_5, wJArr k a_p3 1 p3_3] ++ savW k sa_0 so_0) ++ poolW k pp_0 p1pa_2.2) (c_X9_thrown n l k a_p2 p2_5 r_7 hg) E vl_L_152 dL_law_2444 rfl (posOf [1, 2, 2, 3, 12, 12, 1, 3, 2, 13, 1] [9]) 7 38 hW hA hl rfl (law_map (ln := [1, 2, 2, 3, 12, 12, 1, 3, 2, 13, 1]) (is := [9]) (cs := [wModel k a_p2 p2_5]) (fl1 _) rfl (by decide) rfl) rfl rfl ⟨Nat.le_of_ble_eq_true rfl, Nat.le_of_ble_eq_true rfl⟩ ⟨by show _ ≤ 601024; omega, by show _ ≤ 7293034; omega⟩ (Nat.le_of_ble_eq_true rfl) rfl (fun _ => rfl) (fun u => law_put (ln := [1, 2, 2, 3, 12, 12, 1, 3, 2, 13, 1]) (is := [9]) (cs0 := [wModel k a_p2 p2_5]) (cs := [wModel k a_p2 p2_5]) (fl1 _) rfl (by decide) rfl rfl) (fun r u H locs hp hW => ?_)
  cases hp
  have hW : WD k A s.heap ((List.flatten [wMCo k a_p1 (a_p1in 0) (a_p1ou 0) (a_p1ru 0) (a_p1no 0) (a_p1fo 0) (a_p1rd 0) (a_p1pa 0) (svV sa_0 so_0) p1_0, wBytes k a_p1in 600 p1in_0, wBytes k a_p1ou 1024 p1ou_0, wRules k a_p1ru p1ru_0, wCourt k a_p1no p1no_1, wCourt k a_p1fo p1fo_0, wReader k a_p1rd (a_p1in 0) (a_p1fo 0) (a_p1rr 0) p1rd_0, wRules k a_p1rr p1rr_0, wPast k a_p1pa pp_0 p1pa_2, wModel k a_p2 p2_5, wJArr k a_p3 1 p3_3] ++ savW k sa_0 so_0) ++ poolW k pp_0 p1pa_2.2) H locs := hW
  refine k_iload E hl 1 dL_law_2447 rfl ?_
  refine lv_icmp_eq (tgt := 2454) E.hx E.hb dL_law_2449 (by decide) (fun hc => ?_) (fun hc => ?_)
  · have hf := oT hc hf
    refine k_iload E hl 1 dL_law_2454 rfl ?_
    refine lv_if_ne (tgt := 2471) E.hx E.hb dL_law_2456 (by decide) (fun hc => ?_) (fun hc => ?_)
    · have hf := oF hc hf
      refine lv_goto (tgt := 2474) E.hx E.hb dL_law_2471 (by decide) ?_
      exact hgo pp_0 sa_0 _ _ _ _ _ (by omega) (by omega) (by cases hf; exact hW) (lv_sub hl [2, 3, 4, 5, 6] rfl)
    · have hf := oT hc hf
      refine k_aload_n E hl 5 dL_law_2459 rfl ?_
      refine lv_iconst (v := (0 : Int32)) E.hx E.hb dL_law_2460 ic_0 ?_
      obtain ⟨hin, hf⟩ := oI hf
      obtain ⟨x_8, ex_8, hf⟩ := oL hf
      refine k_lald E hW 51 rfl hin dL_law_2461 ?_
      refine k_topl ex_8 ?_
      refine k_iload E hl 0 dL_law_2462 rfl ?_
      refine lv_i2l (v := (r_6).toInt64) E.hx E.hb dL_law_2464 rfl ?_
      refine W.lcmp E.hx E.hb dL_law_2465 ?_
      refine lv_if_eq (tgt := 2471) E.hx E.hb dL_law_2466 (by decide) (fun hc => ?_) (fun hc => ?_)
      · have hf := oT hc hf
        refine lv_goto (tgt := 2474) E.hx E.hb dL_law_2471 (by decide) ?_
        exact hgo pp_0 sa_0 _ _ _ _ _ (by omega) (by omega) (by cases hf; exact hW) (lv_sub hl [2, 3, 4, 5, 6] rfl)
      · have hf := oF hc hf
        refine lv_iconst (v := (0 : Int32)) E.hx E.hb dL_law_2469 ic_0 ?_
        exact o0 hf
  · have hf := oF hc hf
    refine lv_iconst (v := (0 : Int32)) E.hx E.hb dL_law_2452 ic_0 ?_
    exact o0 hf
