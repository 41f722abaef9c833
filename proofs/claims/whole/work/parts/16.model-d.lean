theorem tm_1864 : (Jvm.Cond.methodLink "MemoryCourtModel" (375 : Nat) ({ cls := "java/lang/String", name := "length", desc := "()I" } : Jvm.MethodName)) ∈ lw_tbl := List.mem_of_getElem? (i := 1864) (by decide +kernel)
theorem tm_1865 : (Jvm.Cond.methodLink "MemoryCourtModel" (379 : Nat) ({ cls := "java/lang/String", name := "charAt", desc := "(I)C" } : Jvm.MethodName)) ∈ lw_tbl := List.mem_of_getElem? (i := 1865) (by decide +kernel)
theorem tm_1851 : (Jvm.Cond.methodLink "MemoryCourtModel" (349 : Nat) ({ cls := "MemoryCourtModel", name := "isLetter", desc := "(I)Z" } : Jvm.MethodName)) ∈ lw_tbl := List.mem_of_getElem? (i := 1851) (by decide +kernel)
theorem tm_1853 : (Jvm.Cond.instanceMethod ({ cls := "MemoryCourtModel", name := "isLetter", desc := "(I)Z" } : Jvm.MethodName)) ∈ lw_tbl := List.mem_of_getElem? (i := 1853) (by decide +kernel)
theorem tms_87 : (Jvm.Cond.selects "MemoryCourtModel" ({ cls := "MemoryCourtModel", name := "isLetter", desc := "(I)Z" } : Jvm.MethodName) ({ cls := "MemoryCourtModel", name := "isLetter", desc := "(I)Z" } : Jvm.MethodName)) ∈ lw_tbl := List.mem_of_getElem? (i := 87) (by decide +kernel)
theorem tm_1854 : (Jvm.Cond.code ({ cls := "MemoryCourtModel", name := "isLetter", desc := "(I)Z" } : Jvm.MethodName) prog_11_method_107_code (2 : Nat) (Option.some Jvm.ClassFile.FieldType.boolean)) ∈ lw_tbl := List.mem_of_getElem? (i := 1854) (by decide +kernel)
theorem tm_1866 : (Jvm.Cond.constantLong "MemoryCourtModel" (366 : Nat) (48 : Int64)) ∈ lw_tbl := List.mem_of_getElem? (i := 1866) (by decide +kernel)
theorem tm_1867 : (Jvm.Cond.constantLong "MemoryCourtModel" (368 : Nat) (57 : Int64)) ∈ lw_tbl := List.mem_of_getElem? (i := 1867) (by decide +kernel)
theorem tm_1347 : (Jvm.Cond.fieldLink "MemoryCourtModel" (370 : Nat) "MemoryCourtModel" "value" "I") ∈ lw_tbl := List.mem_of_getElem? (i := 1347) (by decide +kernel)
theorem tm_1348 : (Jvm.Cond.fieldLink "MemoryCourtModel" (352 : Nat) "MemoryCourtModel" "spelt" "J") ∈ lw_tbl := List.mem_of_getElem? (i := 1348) (by decide +kernel)
theorem tm_1859 : (Jvm.Cond.methodLink "MemoryCourtModel" (360 : Nat) ({ cls := "MemoryCourtModel", name := "wordHere", desc := "()I" } : Jvm.MethodName)) ∈ lw_tbl := List.mem_of_getElem? (i := 1859) (by decide +kernel)
theorem tm_1861 : (Jvm.Cond.instanceMethod ({ cls := "MemoryCourtModel", name := "wordHere", desc := "()I" } : Jvm.MethodName)) ∈ lw_tbl := List.mem_of_getElem? (i := 1861) (by decide +kernel)
theorem tms_88 : (Jvm.Cond.selects "MemoryCourtModel" ({ cls := "MemoryCourtModel", name := "wordHere", desc := "()I" } : Jvm.MethodName) ({ cls := "MemoryCourtModel", name := "wordHere", desc := "()I" } : Jvm.MethodName)) ∈ lw_tbl := List.mem_of_getElem? (i := 88) (by decide +kernel)
theorem tm_1862 : (Jvm.Cond.code ({ cls := "MemoryCourtModel", name := "wordHere", desc := "()I" } : Jvm.MethodName) prog_11_method_109_code (4 : Nat) (Option.some Jvm.ClassFile.FieldType.int)) ∈ lw_tbl := List.mem_of_getElem? (i := 1862) (by decide +kernel)
theorem tm_1843 : (Jvm.Cond.methodLink "MemoryCourtModel" (390 : Nat) ({ cls := "MemoryCourtModel", name := "next", desc := "()V" } : Jvm.MethodName)) ∈ lw_tbl := List.mem_of_getElem? (i := 1843) (by decide +kernel)
theorem tm_1845 : (Jvm.Cond.instanceMethod ({ cls := "MemoryCourtModel", name := "next", desc := "()V" } : Jvm.MethodName)) ∈ lw_tbl := List.mem_of_getElem? (i := 1845) (by decide +kernel)
theorem tms_85 : (Jvm.Cond.selects "MemoryCourtModel" ({ cls := "MemoryCourtModel", name := "next", desc := "()V" } : Jvm.MethodName) ({ cls := "MemoryCourtModel", name := "next", desc := "()V" } : Jvm.MethodName)) ∈ lw_tbl := List.mem_of_getElem? (i := 85) (by decide +kernel)
theorem tm_1846 : (Jvm.Cond.code ({ cls := "MemoryCourtModel", name := "next", desc := "()V" } : Jvm.MethodName) prog_11_method_108_code (2 : Nat) (Option.none : Option Jvm.ClassFile.FieldType)) ∈ lw_tbl := List.mem_of_getElem? (i := 1846) (by decide +kernel)
theorem tm_1876 : (Jvm.Cond.methodLink "MemoryCourtModel" (393 : Nat) ({ cls := "MemoryCourtModel", name := "needs", desc := "(ZI)V" } : Jvm.MethodName)) ∈ lw_tbl := List.mem_of_getElem? (i := 1876) (by decide +kernel)
theorem tm_1878 : (Jvm.Cond.instanceMethod ({ cls := "MemoryCourtModel", name := "needs", desc := "(ZI)V" } : Jvm.MethodName)) ∈ lw_tbl := List.mem_of_getElem? (i := 1878) (by decide +kernel)
theorem tms_91 : (Jvm.Cond.selects "MemoryCourtModel" ({ cls := "MemoryCourtModel", name := "needs", desc := "(ZI)V" } : Jvm.MethodName) ({ cls := "MemoryCourtModel", name := "needs", desc := "(ZI)V" } : Jvm.MethodName)) ∈ lw_tbl := List.mem_of_getElem? (i := 91) (by decide +kernel)
theorem tm_1879 : (Jvm.Cond.code ({ cls := "MemoryCourtModel", name := "needs", desc := "(ZI)V" } : Jvm.MethodName) prog_11_method_111_code (3 : Nat) (Option.none : Option Jvm.ClassFile.FieldType)) ∈ lw_tbl := List.mem_of_getElem? (i := 1879) (by decide +kernel)
theorem tm_1880 : (Jvm.Cond.methodLink "MemoryCourtModel" (397 : Nat) ({ cls := "MemoryCourtModel", name := "goOn", desc := "()V" } : Jvm.MethodName)) ∈ lw_tbl := List.mem_of_getElem? (i := 1880) (by decide +kernel)
theorem tm_1882 : (Jvm.Cond.instanceMethod ({ cls := "MemoryCourtModel", name := "goOn", desc := "()V" } : Jvm.MethodName)) ∈ lw_tbl := List.mem_of_getElem? (i := 1882) (by decide +kernel)
theorem tms_92 : (Jvm.Cond.selects "MemoryCourtModel" ({ cls := "MemoryCourtModel", name := "goOn", desc := "()V" } : Jvm.MethodName) ({ cls := "MemoryCourtModel", name := "goOn", desc := "()V" } : Jvm.MethodName)) ∈ lw_tbl := List.mem_of_getElem? (i := 92) (by decide +kernel)
theorem tm_1883 : (Jvm.Cond.code ({ cls := "MemoryCourtModel", name := "goOn", desc := "()V" } : Jvm.MethodName) prog_11_method_112_code (1 : Nat) (Option.none : Option Jvm.ClassFile.FieldType)) ∈ lw_tbl := List.mem_of_getElem? (i := 1883) (by decide +kernel)
theorem tm_1896 : (Jvm.Cond.methodLink "MemoryCourtModel" (400 : Nat) ({ cls := "MemoryCourtModel", name := "isName", desc := "()Z" } : Jvm.MethodName)) ∈ lw_tbl := List.mem_of_getElem? (i := 1896) (by decide +kernel)
theorem tm_1898 : (Jvm.Cond.instanceMethod ({ cls := "MemoryCourtModel", name := "isName", desc := "()Z" } : Jvm.MethodName)) ∈ lw_tbl := List.mem_of_getElem? (i := 1898) (by decide +kernel)
theorem tms_96 : (Jvm.Cond.selects "MemoryCourtModel" ({ cls := "MemoryCourtModel", name := "isName", desc := "()Z" } : Jvm.MethodName) ({ cls := "MemoryCourtModel", name := "isName", desc := "()Z" } : Jvm.MethodName)) ∈ lw_tbl := List.mem_of_getElem? (i := 96) (by decide +kernel)
theorem tm_1899 : (Jvm.Cond.code ({ cls := "MemoryCourtModel", name := "isName", desc := "()Z" } : Jvm.MethodName) prog_11_method_114_code (1 : Nat) (Option.some Jvm.ClassFile.FieldType.boolean)) ∈ lw_tbl := List.mem_of_getElem? (i := 1899) (by decide +kernel)
theorem tm_1923 : (Jvm.Cond.constantLong "MemoryCourtModel" (407 : Nat) (8 : Int64)) ∈ lw_tbl := List.mem_of_getElem? (i := 1923) (by decide +kernel)
theorem tm_1924 : (Jvm.Cond.constantLong "MemoryCourtModel" (409 : Nat) (10 : Int64)) ∈ lw_tbl := List.mem_of_getElem? (i := 1924) (by decide +kernel)
theorem tm_1884 : (Jvm.Cond.methodLink "MemoryCourtModel" (414 : Nat) ({ cls := "MemoryCourtModel", name := "number", desc := "(II)I" } : Jvm.MethodName)) ∈ lw_tbl := List.mem_of_getElem? (i := 1884) (by decide +kernel)
theorem tm_1886 : (Jvm.Cond.instanceMethod ({ cls := "MemoryCourtModel", name := "number", desc := "(II)I" } : Jvm.MethodName)) ∈ lw_tbl := List.mem_of_getElem? (i := 1886) (by decide +kernel)
theorem tms_93 : (Jvm.Cond.selects "MemoryCourtModel" ({ cls := "MemoryCourtModel", name := "number", desc := "(II)I" } : Jvm.MethodName) ({ cls := "MemoryCourtModel", name := "number", desc := "(II)I" } : Jvm.MethodName)) ∈ lw_tbl := List.mem_of_getElem? (i := 93) (by decide +kernel)
theorem tm_1887 : (Jvm.Cond.code ({ cls := "MemoryCourtModel", name := "number", desc := "(II)I" } : Jvm.MethodName) prog_11_method_115_code (4 : Nat) (Option.some Jvm.ClassFile.FieldType.int)) ∈ lw_tbl := List.mem_of_getElem? (i := 1887) (by decide +kernel)
theorem tm_1919 : (Jvm.Cond.methodLink "MemoryCourtModel" (411 : Nat) ({ cls := "MemoryCourtModel", name := "readsOrder", desc := "()V" } : Jvm.MethodName)) ∈ lw_tbl := List.mem_of_getElem? (i := 1919) (by decide +kernel)
theorem tm_1921 : (Jvm.Cond.instanceMethod ({ cls := "MemoryCourtModel", name := "readsOrder", desc := "()V" } : Jvm.MethodName)) ∈ lw_tbl := List.mem_of_getElem? (i := 1921) (by decide +kernel)
theorem tms_101 : (Jvm.Cond.selects "MemoryCourtModel" ({ cls := "MemoryCourtModel", name := "readsOrder", desc := "()V" } : Jvm.MethodName) ({ cls := "MemoryCourtModel", name := "readsOrder", desc := "()V" } : Jvm.MethodName)) ∈ lw_tbl := List.mem_of_getElem? (i := 101) (by decide +kernel)
theorem tm_1922 : (Jvm.Cond.code ({ cls := "MemoryCourtModel", name := "readsOrder", desc := "()V" } : Jvm.MethodName) prog_11_method_119_code (1 : Nat) (Option.none : Option Jvm.ClassFile.FieldType)) ∈ lw_tbl := List.mem_of_getElem? (i := 1922) (by decide +kernel)
theorem tm_1907 : (Jvm.Cond.methodLink "MemoryCourtModel" (417 : Nat) ({ cls := "MemoryCourtModel", name := "readsOwner", desc := "()I" } : Jvm.MethodName)) ∈ lw_tbl := List.mem_of_getElem? (i := 1907) (by decide +kernel)
theorem tm_1909 : (Jvm.Cond.instanceMethod ({ cls := "MemoryCourtModel", name := "readsOwner", desc := "()I" } : Jvm.MethodName)) ∈ lw_tbl := List.mem_of_getElem? (i := 1909) (by decide +kernel)
theorem tms_98 : (Jvm.Cond.selects "MemoryCourtModel" ({ cls := "MemoryCourtModel", name := "readsOwner", desc := "()I" } : Jvm.MethodName) ({ cls := "MemoryCourtModel", name := "readsOwner", desc := "()I" } : Jvm.MethodName)) ∈ lw_tbl := List.mem_of_getElem? (i := 98) (by decide +kernel)
theorem tm_1910 : (Jvm.Cond.code ({ cls := "MemoryCourtModel", name := "readsOwner", desc := "()I" } : Jvm.MethodName) prog_11_method_118_code (2 : Nat) (Option.some Jvm.ClassFile.FieldType.int)) ∈ lw_tbl := List.mem_of_getElem? (i := 1910) (by decide +kernel)
theorem tm_1868 : (Jvm.Cond.methodLink "MemoryCourtModel" (420 : Nat) ({ cls := "MemoryCourtModel", name := "isWord", desc := "(I)Z" } : Jvm.MethodName)) ∈ lw_tbl := List.mem_of_getElem? (i := 1868) (by decide +kernel)
theorem tm_1870 : (Jvm.Cond.instanceMethod ({ cls := "MemoryCourtModel", name := "isWord", desc := "(I)Z" } : Jvm.MethodName)) ∈ lw_tbl := List.mem_of_getElem? (i := 1870) (by decide +kernel)
theorem tms_89 : (Jvm.Cond.selects "MemoryCourtModel" ({ cls := "MemoryCourtModel", name := "isWord", desc := "(I)Z" } : Jvm.MethodName) ({ cls := "MemoryCourtModel", name := "isWord", desc := "(I)Z" } : Jvm.MethodName)) ∈ lw_tbl := List.mem_of_getElem? (i := 89) (by decide +kernel)
theorem tm_1871 : (Jvm.Cond.code ({ cls := "MemoryCourtModel", name := "isWord", desc := "(I)Z" } : Jvm.MethodName) prog_11_method_113_code (2 : Nat) (Option.some Jvm.ClassFile.FieldType.boolean)) ∈ lw_tbl := List.mem_of_getElem? (i := 1871) (by decide +kernel)
theorem tm_1915 : (Jvm.Cond.methodLink "MemoryCourtModel" (432 : Nat) ({ cls := "MemoryCourtModel", name := "readsOnce", desc := "(I)V" } : Jvm.MethodName)) ∈ lw_tbl := List.mem_of_getElem? (i := 1915) (by decide +kernel)
theorem tm_1917 : (Jvm.Cond.instanceMethod ({ cls := "MemoryCourtModel", name := "readsOnce", desc := "(I)V" } : Jvm.MethodName)) ∈ lw_tbl := List.mem_of_getElem? (i := 1917) (by decide +kernel)
theorem tms_100 : (Jvm.Cond.selects "MemoryCourtModel" ({ cls := "MemoryCourtModel", name := "readsOnce", desc := "(I)V" } : Jvm.MethodName) ({ cls := "MemoryCourtModel", name := "readsOnce", desc := "(I)V" } : Jvm.MethodName)) ∈ lw_tbl := List.mem_of_getElem? (i := 100) (by decide +kernel)
theorem tm_1918 : (Jvm.Cond.code ({ cls := "MemoryCourtModel", name := "readsOnce", desc := "(I)V" } : Jvm.MethodName) prog_11_method_120_code (4 : Nat) (Option.none : Option Jvm.ClassFile.FieldType)) ∈ lw_tbl := List.mem_of_getElem? (i := 1918) (by decide +kernel)
theorem tm_1911 : (Jvm.Cond.methodLink "MemoryCourtModel" (429 : Nat) ({ cls := "MemoryCourtModel", name := "readsAsk", desc := "()V" } : Jvm.MethodName)) ∈ lw_tbl := List.mem_of_getElem? (i := 1911) (by decide +kernel)
theorem tm_1913 : (Jvm.Cond.instanceMethod ({ cls := "MemoryCourtModel", name := "readsAsk", desc := "()V" } : Jvm.MethodName)) ∈ lw_tbl := List.mem_of_getElem? (i := 1913) (by decide +kernel)
theorem tms_99 : (Jvm.Cond.selects "MemoryCourtModel" ({ cls := "MemoryCourtModel", name := "readsAsk", desc := "()V" } : Jvm.MethodName) ({ cls := "MemoryCourtModel", name := "readsAsk", desc := "()V" } : Jvm.MethodName)) ∈ lw_tbl := List.mem_of_getElem? (i := 99) (by decide +kernel)
theorem tm_1914 : (Jvm.Cond.code ({ cls := "MemoryCourtModel", name := "readsAsk", desc := "()V" } : Jvm.MethodName) prog_11_method_122_code (5 : Nat) (Option.none : Option Jvm.ClassFile.FieldType)) ∈ lw_tbl := List.mem_of_getElem? (i := 1914) (by decide +kernel)
theorem tm_1903 : (Jvm.Cond.methodLink "MemoryCourtModel" (426 : Nat) ({ cls := "MemoryCourtModel", name := "readsLoan", desc := "()V" } : Jvm.MethodName)) ∈ lw_tbl := List.mem_of_getElem? (i := 1903) (by decide +kernel)
theorem tm_1905 : (Jvm.Cond.instanceMethod ({ cls := "MemoryCourtModel", name := "readsLoan", desc := "()V" } : Jvm.MethodName)) ∈ lw_tbl := List.mem_of_getElem? (i := 1905) (by decide +kernel)
theorem tms_97 : (Jvm.Cond.selects "MemoryCourtModel" ({ cls := "MemoryCourtModel", name := "readsLoan", desc := "()V" } : Jvm.MethodName) ({ cls := "MemoryCourtModel", name := "readsLoan", desc := "()V" } : Jvm.MethodName)) ∈ lw_tbl := List.mem_of_getElem? (i := 97) (by decide +kernel)
theorem tm_1906 : (Jvm.Cond.code ({ cls := "MemoryCourtModel", name := "readsLoan", desc := "()V" } : Jvm.MethodName) prog_11_method_121_code (4 : Nat) (Option.none : Option Jvm.ClassFile.FieldType)) ∈ lw_tbl := List.mem_of_getElem? (i := 1906) (by decide +kernel)
theorem tm_1892 : (Jvm.Cond.methodLink "MemoryCourtModel" (423 : Nat) ({ cls := "MemoryCourtModel", name := "readsProcess", desc := "()V" } : Jvm.MethodName)) ∈ lw_tbl := List.mem_of_getElem? (i := 1892) (by decide +kernel)
theorem tm_1894 : (Jvm.Cond.instanceMethod ({ cls := "MemoryCourtModel", name := "readsProcess", desc := "()V" } : Jvm.MethodName)) ∈ lw_tbl := List.mem_of_getElem? (i := 1894) (by decide +kernel)
theorem tms_95 : (Jvm.Cond.selects "MemoryCourtModel" ({ cls := "MemoryCourtModel", name := "readsProcess", desc := "()V" } : Jvm.MethodName) ({ cls := "MemoryCourtModel", name := "readsProcess", desc := "()V" } : Jvm.MethodName)) ∈ lw_tbl := List.mem_of_getElem? (i := 95) (by decide +kernel)
theorem tm_1895 : (Jvm.Cond.code ({ cls := "MemoryCourtModel", name := "readsProcess", desc := "()V" } : Jvm.MethodName) prog_11_method_117_code (1 : Nat) (Option.none : Option Jvm.ClassFile.FieldType)) ∈ lw_tbl := List.mem_of_getElem? (i := 1895) (by decide +kernel)
theorem tm_1302 : (Jvm.Cond.methodLink "MemoryCourtModel" (58 : Nat) ({ cls := "MemoryCourtModel", name := "clears", desc := "()V" } : Jvm.MethodName)) ∈ lw_tbl := List.mem_of_getElem? (i := 1302) (by decide +kernel)
theorem tm_1304 : (Jvm.Cond.instanceMethod ({ cls := "MemoryCourtModel", name := "clears", desc := "()V" } : Jvm.MethodName)) ∈ lw_tbl := List.mem_of_getElem? (i := 1304) (by decide +kernel)
theorem tms_34 : (Jvm.Cond.selects "MemoryCourtModel" ({ cls := "MemoryCourtModel", name := "clears", desc := "()V" } : Jvm.MethodName) ({ cls := "MemoryCourtModel", name := "clears", desc := "()V" } : Jvm.MethodName)) ∈ lw_tbl := List.mem_of_getElem? (i := 34) (by decide +kernel)
theorem tm_1305 : (Jvm.Cond.code ({ cls := "MemoryCourtModel", name := "clears", desc := "()V" } : Jvm.MethodName) prog_11_method_102_code (2 : Nat) (Option.none : Option Jvm.ClassFile.FieldType)) ∈ lw_tbl := List.mem_of_getElem? (i := 1305) (by decide +kernel)
theorem tm_1311 : (Jvm.Cond.methodLink "MemoryCourtModel" (64 : Nat) ({ cls := "MemoryCourtModel", name := "takesDraft", desc := "()V" } : Jvm.MethodName)) ∈ lw_tbl := List.mem_of_getElem? (i := 1311) (by decide +kernel)
theorem tm_1313 : (Jvm.Cond.instanceMethod ({ cls := "MemoryCourtModel", name := "takesDraft", desc := "()V" } : Jvm.MethodName)) ∈ lw_tbl := List.mem_of_getElem? (i := 1313) (by decide +kernel)
theorem tms_35 : (Jvm.Cond.selects "MemoryCourtModel" ({ cls := "MemoryCourtModel", name := "takesDraft", desc := "()V" } : Jvm.MethodName) ({ cls := "MemoryCourtModel", name := "takesDraft", desc := "()V" } : Jvm.MethodName)) ∈ lw_tbl := List.mem_of_getElem? (i := 35) (by decide +kernel)
theorem tm_1314 : (Jvm.Cond.code ({ cls := "MemoryCourtModel", name := "takesDraft", desc := "()V" } : Jvm.MethodName) prog_11_method_103_code (2 : Nat) (Option.none : Option Jvm.ClassFile.FieldType)) ∈ lw_tbl := List.mem_of_getElem? (i := 1314) (by decide +kernel)
theorem tm_1888 : (Jvm.Cond.methodLink "MemoryCourtModel" (435 : Nat) ({ cls := "MemoryCourtModel", name := "statement", desc := "()V" } : Jvm.MethodName)) ∈ lw_tbl := List.mem_of_getElem? (i := 1888) (by decide +kernel)
theorem tm_1890 : (Jvm.Cond.instanceMethod ({ cls := "MemoryCourtModel", name := "statement", desc := "()V" } : Jvm.MethodName)) ∈ lw_tbl := List.mem_of_getElem? (i := 1890) (by decide +kernel)
theorem tms_94 : (Jvm.Cond.selects "MemoryCourtModel" ({ cls := "MemoryCourtModel", name := "statement", desc := "()V" } : Jvm.MethodName) ({ cls := "MemoryCourtModel", name := "statement", desc := "()V" } : Jvm.MethodName)) ∈ lw_tbl := List.mem_of_getElem? (i := 94) (by decide +kernel)
theorem tm_1891 : (Jvm.Cond.code ({ cls := "MemoryCourtModel", name := "statement", desc := "()V" } : Jvm.MethodName) prog_11_method_123_code (1 : Nat) (Option.none : Option Jvm.ClassFile.FieldType)) ∈ lw_tbl := List.mem_of_getElem? (i := 1891) (by decide +kernel)
theorem bp_50 : (Int8.ofInt (50)).toInt32 = (50 : Int32) := by decide
theorem bp_11 : (Int8.ofInt (11)).toInt32 = (11 : Int32) := by decide
theorem pf_X9_340 {p : Program} {l : Launch} {e : Env} {R : Room} {s : State} {m : MethodId} {args : Array Value} {below : List Frame} {meth : Method} {c : Code} {H : Heap} {locs : List Loc} {cells slots : Nat} {Q : State → Prop} {cc : ByteArray} {pc nL : Nat} {ls : Array Slot} {rest : List Value} {k : KT} {A : Nat → Prop} {ws ws2 : va_W} {H0 : Heap} {a : Nat} (E : E0 p s m c cc nL RX9 k A) (hW : WD k A H0 ws H locs) (q0 : Nat) {fs : List Value} (he : ws[q0]? = some (a, .inr (7, fs))) {v : Value} (hn : narrow (tyX9 25) v = v) (hfit : fits (tyX9 25) v = true) (hl : 25 < fs.length) (hdg : decode cc pc = .ok (.putfield 340, 3)) (hws : ws.set q0 (a, .inr (7, fs.set 25 v)) = ws2) (q : ∀ (H1 : Heap) (locs1 : List Loc), WD k A H0 ws2 H1 locs1 → W p l e R s m args below meth c H1 locs1 cells slots Q (F0 m (pc + 3) ls rest)) : W p l e R s m args below meth c H locs cells slots Q (F0 m pc ls (v :: .ref a :: rest)) := by
  subst hws
  exact va_put (C := RX9) (T := TX9) (N := 41) (ci := 7) (ty := tyX9 25) E.hx E.hb (Ts := wsX90) (fun w hw => E.w (inX9 w hw) (tbl_laysX9 w hw)) (fun _ h => h) tyX9 tyX9_ok nmX9 E.ho E.hK hW.1 hW.2.1 hW.2.2 q0 he rfl 25 (by decide) (E.w tm_1343 rfl) (fun _ h => h) rfl (tyX9_ok 25 (by decide)) hn hfit hl hdg (fun H1 locs1 h1 h2 h3 => q H1 locs1 ⟨h1, h2, h3⟩)
theorem pf_X9_343 {p : Program} {l : Launch} {e : Env} {R : Room} {s : State} {m : MethodId} {args : Array Value} {below : List Frame} {meth : Method} {c : Code} {H : Heap} {locs : List Loc} {cells slots : Nat} {Q : State → Prop} {cc : ByteArray} {pc nL : Nat} {ls : Array Slot} {rest : List Value} {k : KT} {A : Nat → Prop} {ws ws2 : va_W} {H0 : Heap} {a : Nat} (E : E0 p s m c cc nL RX9 k A) (hW : WD k A H0 ws H locs) (q0 : Nat) {fs : List Value} (he : ws[q0]? = some (a, .inr (7, fs))) {v : Value} (hn : narrow (tyX9 26) v = v) (hfit : fits (tyX9 26) v = true) (hl : 26 < fs.length) (hdg : decode cc pc = .ok (.putfield 343, 3)) (hws : ws.set q0 (a, .inr (7, fs.set 26 v)) = ws2) (q : ∀ (H1 : Heap) (locs1 : List Loc), WD k A H0 ws2 H1 locs1 → W p l e R s m args below meth c H1 locs1 cells slots Q (F0 m (pc + 3) ls rest)) : W p l e R s m args below meth c H locs cells slots Q (F0 m pc ls (v :: .ref a :: rest)) := by
  subst hws
  exact va_put (C := RX9) (T := TX9) (N := 41) (ci := 7) (ty := tyX9 26) E.hx E.hb (Ts := wsX90) (fun w hw => E.w (inX9 w hw) (tbl_laysX9 w hw)) (fun _ h => h) tyX9 tyX9_ok nmX9 E.ho E.hK hW.1 hW.2.1 hW.2.2 q0 he rfl 26 (by decide) (E.w tm_1344 rfl) (fun _ h => h) rfl (tyX9_ok 26 (by decide)) hn hfit hl hdg (fun H1 locs1 h1 h2 h3 => q H1 locs1 ⟨h1, h2, h3⟩)
theorem pf_X9_346 {p : Program} {l : Launch} {e : Env} {R : Room} {s : State} {m : MethodId} {args : Array Value} {below : List Frame} {meth : Method} {c : Code} {H : Heap} {locs : List Loc} {cells slots : Nat} {Q : State → Prop} {cc : ByteArray} {pc nL : Nat} {ls : Array Slot} {rest : List Value} {k : KT} {A : Nat → Prop} {ws ws2 : va_W} {H0 : Heap} {a : Nat} (E : E0 p s m c cc nL RX9 k A) (hW : WD k A H0 ws H locs) (q0 : Nat) {fs : List Value} (he : ws[q0]? = some (a, .inr (7, fs))) {v : Value} (hn : narrow (tyX9 27) v = v) (hfit : fits (tyX9 27) v = true) (hl : 27 < fs.length) (hdg : decode cc pc = .ok (.putfield 346, 3)) (hws : ws.set q0 (a, .inr (7, fs.set 27 v)) = ws2) (q : ∀ (H1 : Heap) (locs1 : List Loc), WD k A H0 ws2 H1 locs1 → W p l e R s m args below meth c H1 locs1 cells slots Q (F0 m (pc + 3) ls rest)) : W p l e R s m args below meth c H locs cells slots Q (F0 m pc ls (v :: .ref a :: rest)) := by
  subst hws
  exact va_put (C := RX9) (T := TX9) (N := 41) (ci := 7) (ty := tyX9 27) E.hx E.hb (Ts := wsX90) (fun w hw => E.w (inX9 w hw) (tbl_laysX9 w hw)) (fun _ h => h) tyX9 tyX9_ok nmX9 E.ho E.hK hW.1 hW.2.1 hW.2.2 q0 he rfl 27 (by decide) (E.w tm_1345 rfl) (fun _ h => h) rfl (tyX9_ok 27 (by decide)) hn hfit hl hdg (fun H1 locs1 h1 h2 h3 => q H1 locs1 ⟨h1, h2, h3⟩)
theorem pf_X9_370 {p : Program} {l : Launch} {e : Env} {R : Room} {s : State} {m : MethodId} {args : Array Value} {below : List Frame} {meth : Method} {c : Code} {H : Heap} {locs : List Loc} {cells slots : Nat} {Q : State → Prop} {cc : ByteArray} {pc nL : Nat} {ls : Array Slot} {rest : List Value} {k : KT} {A : Nat → Prop} {ws ws2 : va_W} {H0 : Heap} {a : Nat} (E : E0 p s m c cc nL RX9 k A) (hW : WD k A H0 ws H locs) (q0 : Nat) {fs : List Value} (he : ws[q0]? = some (a, .inr (7, fs))) {v : Value} (hn : narrow (tyX9 29) v = v) (hfit : fits (tyX9 29) v = true) (hl : 29 < fs.length) (hdg : decode cc pc = .ok (.putfield 370, 3)) (hws : ws.set q0 (a, .inr (7, fs.set 29 v)) = ws2) (q : ∀ (H1 : Heap) (locs1 : List Loc), WD k A H0 ws2 H1 locs1 → W p l e R s m args below meth c H1 locs1 cells slots Q (F0 m (pc + 3) ls rest)) : W p l e R s m args below meth c H locs cells slots Q (F0 m pc ls (v :: .ref a :: rest)) := by
  subst hws
  exact va_put (C := RX9) (T := TX9) (N := 41) (ci := 7) (ty := tyX9 29) E.hx E.hb (Ts := wsX90) (fun w hw => E.w (inX9 w hw) (tbl_laysX9 w hw)) (fun _ h => h) tyX9 tyX9_ok nmX9 E.ho E.hK hW.1 hW.2.1 hW.2.2 q0 he rfl 29 (by decide) (E.w tm_1347 rfl) (fun _ h => h) rfl (tyX9_ok 29 (by decide)) hn hfit hl hdg (fun H1 locs1 h1 h2 h3 => q H1 locs1 ⟨h1, h2, h3⟩)
theorem gf_X9_370 {p : Program} {l : Launch} {e : Env} {R : Room} {s : State} {m : MethodId} {args : Array Value} {below : List Frame} {meth : Method} {c : Code} {H : Heap} {locs : List Loc} {cells slots : Nat} {Q : State → Prop} {cc : ByteArray} {pc nL : Nat} {ls : Array Slot} {rest : List Value} {k : KT} {A : Nat → Prop} {ws : va_W} {H0 : Heap} {a : Nat} (E : E0 p s m c cc nL RX9 k A) (hW : WD k A H0 ws H locs) (q0 : Nat) {fs : List Value} (he : ws[q0]? = some (a, .inr (7, fs))) {v : Value} (hv : fs[29]? = some v) (hdg : decode cc pc = .ok (.getfield 370, 3)) (q : W p l e R s m args below meth c H locs cells slots Q (F0 m (pc + 3) ls (v :: rest))) : W p l e R s m args below meth c H locs cells slots Q (F0 m pc ls (.ref a :: rest)) := va_get (C := RX9) (T := TX9) (N := 41) (ci := 7) E.hx E.hb (Ts := wsX90) (fun w hw => E.w (inX9 w hw) (tbl_laysX9 w hw)) (fun _ h => h) E.ho E.hK hW.1 q0 he rfl 29 (by decide) (E.w tm_1347 rfl) (fun _ h => h) hv hdg q
theorem pf_X9_352 {p : Program} {l : Launch} {e : Env} {R : Room} {s : State} {m : MethodId} {args : Array Value} {below : List Frame} {meth : Method} {c : Code} {H : Heap} {locs : List Loc} {cells slots : Nat} {Q : State → Prop} {cc : ByteArray} {pc nL : Nat} {ls : Array Slot} {rest : List Value} {k : KT} {A : Nat → Prop} {ws ws2 : va_W} {H0 : Heap} {a : Nat} (E : E0 p s m c cc nL RX9 k A) (hW : WD k A H0 ws H locs) (q0 : Nat) {fs : List Value} (he : ws[q0]? = some (a, .inr (7, fs))) {v : Value} (hn : narrow (tyX9 30) v = v) (hfit : fits (tyX9 30) v = true) (hl : 30 < fs.length) (hdg : decode cc pc = .ok (.putfield 352, 3)) (hws : ws.set q0 (a, .inr (7, fs.set 30 v)) = ws2) (q : ∀ (H1 : Heap) (locs1 : List Loc), WD k A H0 ws2 H1 locs1 → W p l e R s m args below meth c H1 locs1 cells slots Q (F0 m (pc + 3) ls rest)) : W p l e R s m args below meth c H locs cells slots Q (F0 m pc ls (v :: .ref a :: rest)) := by
  subst hws
  exact va_put (C := RX9) (T := TX9) (N := 41) (ci := 7) (ty := tyX9 30) E.hx E.hb (Ts := wsX90) (fun w hw => E.w (inX9 w hw) (tbl_laysX9 w hw)) (fun _ h => h) tyX9 tyX9_ok nmX9 E.ho E.hK hW.1 hW.2.1 hW.2.2 q0 he rfl 30 (by decide) (E.w tm_1348 rfl) (fun _ h => h) rfl (tyX9_ok 30 (by decide)) hn hfit hl hdg (fun H1 locs1 h1 h2 h3 => q H1 locs1 ⟨h1, h2, h3⟩)
theorem pf_X9_363 {p : Program} {l : Launch} {e : Env} {R : Room} {s : State} {m : MethodId} {args : Array Value} {below : List Frame} {meth : Method} {c : Code} {H : Heap} {locs : List Loc} {cells slots : Nat} {Q : State → Prop} {cc : ByteArray} {pc nL : Nat} {ls : Array Slot} {rest : List Value} {k : KT} {A : Nat → Prop} {ws ws2 : va_W} {H0 : Heap} {a : Nat} (E : E0 p s m c cc nL RX9 k A) (hW : WD k A H0 ws H locs) (q0 : Nat) {fs : List Value} (he : ws[q0]? = some (a, .inr (7, fs))) {v : Value} (hn : narrow (tyX9 28) v = v) (hfit : fits (tyX9 28) v = true) (hl : 28 < fs.length) (hdg : decode cc pc = .ok (.putfield 363, 3)) (hws : ws.set q0 (a, .inr (7, fs.set 28 v)) = ws2) (q : ∀ (H1 : Heap) (locs1 : List Loc), WD k A H0 ws2 H1 locs1 → W p l e R s m args below meth c H1 locs1 cells slots Q (F0 m (pc + 3) ls rest)) : W p l e R s m args below meth c H locs cells slots Q (F0 m pc ls (v :: .ref a :: rest)) := by
  subst hws
  exact va_put (C := RX9) (T := TX9) (N := 41) (ci := 7) (ty := tyX9 28) E.hx E.hb (Ts := wsX90) (fun w hw => E.w (inX9 w hw) (tbl_laysX9 w hw)) (fun _ h => h) tyX9 tyX9_ok nmX9 E.ho E.hK hW.1 hW.2.1 hW.2.2 q0 he rfl 28 (by decide) (E.w tm_1346 rfl) (fun _ h => h) rfl (tyX9_ok 28 (by decide)) hn hfit hl hdg (fun H1 locs1 h1 h2 h3 => q H1 locs1 ⟨h1, h2, h3⟩)
theorem gf_X9_352 {p : Program} {l : Launch} {e : Env} {R : Room} {s : State} {m : MethodId} {args : Array Value} {below : List Frame} {meth : Method} {c : Code} {H : Heap} {locs : List Loc} {cells slots : Nat} {Q : State → Prop} {cc : ByteArray} {pc nL : Nat} {ls : Array Slot} {rest : List Value} {k : KT} {A : Nat → Prop} {ws : va_W} {H0 : Heap} {a : Nat} (E : E0 p s m c cc nL RX9 k A) (hW : WD k A H0 ws H locs) (q0 : Nat) {fs : List Value} (he : ws[q0]? = some (a, .inr (7, fs))) {v : Value} (hv : fs[30]? = some v) (hdg : decode cc pc = .ok (.getfield 352, 3)) (q : W p l e R s m args below meth c H locs cells slots Q (F0 m (pc + 3) ls (v :: rest))) : W p l e R s m args below meth c H locs cells slots Q (F0 m pc ls (.ref a :: rest)) := va_get (C := RX9) (T := TX9) (N := 41) (ci := 7) E.hx E.hb (Ts := wsX90) (fun w hw => E.w (inX9 w hw) (tbl_laysX9 w hw)) (fun _ h => h) E.ho E.hK hW.1 q0 he rfl 30 (by decide) (E.w tm_1348 rfl) (fun _ h => h) hv hdg q
theorem gf_X9_317 {p : Program} {l : Launch} {e : Env} {R : Room} {s : State} {m : MethodId} {args : Array Value} {below : List Frame} {meth : Method} {c : Code} {H : Heap} {locs : List Loc} {cells slots : Nat} {Q : State → Prop} {cc : ByteArray} {pc nL : Nat} {ls : Array Slot} {rest : List Value} {k : KT} {A : Nat → Prop} {ws : va_W} {H0 : Heap} {a : Nat} (E : E0 p s m c cc nL RX9 k A) (hW : WD k A H0 ws H locs) (q0 : Nat) {fs : List Value} (he : ws[q0]? = some (a, .inr (7, fs))) {v : Value} (hv : fs[35]? = some v) (hdg : decode cc pc = .ok (.getfield 317, 3)) (q : W p l e R s m args below meth c H locs cells slots Q (F0 m (pc + 3) ls (v :: rest))) : W p l e R s m args below meth c H locs cells slots Q (F0 m pc ls (.ref a :: rest)) := va_get (C := RX9) (T := TX9) (N := 41) (ci := 7) E.hx E.hb (Ts := wsX90) (fun w hw => E.w (inX9 w hw) (tbl_laysX9 w hw)) (fun _ h => h) E.ho E.hK hW.1 q0 he rfl 35 (by decide) (E.w tm_1353 rfl) (fun _ h => h) hv hdg q
theorem gf_X9_320 {p : Program} {l : Launch} {e : Env} {R : Room} {s : State} {m : MethodId} {args : Array Value} {below : List Frame} {meth : Method} {c : Code} {H : Heap} {locs : List Loc} {cells slots : Nat} {Q : State → Prop} {cc : ByteArray} {pc nL : Nat} {ls : Array Slot} {rest : List Value} {k : KT} {A : Nat → Prop} {ws : va_W} {H0 : Heap} {a : Nat} (E : E0 p s m c cc nL RX9 k A) (hW : WD k A H0 ws H locs) (q0 : Nat) {fs : List Value} (he : ws[q0]? = some (a, .inr (7, fs))) {v : Value} (hv : fs[36]? = some v) (hdg : decode cc pc = .ok (.getfield 320, 3)) (q : W p l e R s m args below meth c H locs cells slots Q (F0 m (pc + 3) ls (v :: rest))) : W p l e R s m args below meth c H locs cells slots Q (F0 m pc ls (.ref a :: rest)) := va_get (C := RX9) (T := TX9) (N := 41) (ci := 7) E.hx E.hb (Ts := wsX90) (fun w hw => E.w (inX9 w hw) (tbl_laysX9 w hw)) (fun _ h => h) E.ho E.hK hW.1 q0 he rfl 36 (by decide) (E.w tm_1354 rfl) (fun _ h => h) hv hdg q
theorem pf_X9_330 {p : Program} {l : Launch} {e : Env} {R : Room} {s : State} {m : MethodId} {args : Array Value} {below : List Frame} {meth : Method} {c : Code} {H : Heap} {locs : List Loc} {cells slots : Nat} {Q : State → Prop} {cc : ByteArray} {pc nL : Nat} {ls : Array Slot} {rest : List Value} {k : KT} {A : Nat → Prop} {ws ws2 : va_W} {H0 : Heap} {a : Nat} (E : E0 p s m c cc nL RX9 k A) (hW : WD k A H0 ws H locs) (q0 : Nat) {fs : List Value} (he : ws[q0]? = some (a, .inr (7, fs))) {v : Value} (hn : narrow (tyX9 24) v = v) (hfit : fits (tyX9 24) v = true) (hl : 24 < fs.length) (hdg : decode cc pc = .ok (.putfield 330, 3)) (hws : ws.set q0 (a, .inr (7, fs.set 24 v)) = ws2) (q : ∀ (H1 : Heap) (locs1 : List Loc), WD k A H0 ws2 H1 locs1 → W p l e R s m args below meth c H1 locs1 cells slots Q (F0 m (pc + 3) ls rest)) : W p l e R s m args below meth c H locs cells slots Q (F0 m pc ls (v :: .ref a :: rest)) := by
  subst hws
  exact va_put (C := RX9) (T := TX9) (N := 41) (ci := 7) (ty := tyX9 24) E.hx E.hb (Ts := wsX90) (fun w hw => E.w (inX9 w hw) (tbl_laysX9 w hw)) (fun _ h => h) tyX9 tyX9_ok nmX9 E.ho E.hK hW.1 hW.2.1 hW.2.2 q0 he rfl 24 (by decide) (E.w tm_1342 rfl) (fun _ h => h) rfl (tyX9_ok 24 (by decide)) hn hfit hl hdg (fun H1 locs1 h1 h2 h3 => q H1 locs1 ⟨h1, h2, h3⟩)
theorem vl_X9_375 : VL RX9 375 RJ0 yJ0_length_8abf5 cJ0_length_8abf5 1 (some .int) 0 := ⟨⟨tm_1864, tm_460, tm_461, tm_120, tm_462⟩, by decide +kernel⟩
theorem vl_X9_379 : VL RX9 379 RJ0 yJ0_charAt_5068e cJ0_charAt_5068e 2 (some .char) 1 := ⟨⟨tm_1865, tm_470, tm_471, tm_120, tm_472⟩, by decide +kernel⟩
theorem vl_X9_349 : VL RX9 349 RX9 yX9_isLetter cX9_isLetter 2 (some .boolean) 1 := ⟨⟨tm_1851, tm_1853, tms_87, tm_119, tm_1854⟩, by decide +kernel⟩
theorem vl_X9_360 : VL RX9 360 RX9 yX9_wordHere cX9_wordHere 4 (some .int) 0 := ⟨⟨tm_1859, tm_1861, tms_88, tm_119, tm_1862⟩, by decide +kernel⟩
theorem vl_X9_390 : VL RX9 390 RX9 yX9_next cX9_next 2 none 0 := ⟨⟨tm_1843, tm_1845, tms_85, tm_119, tm_1846⟩, by decide +kernel⟩
theorem vl_X9_393 : VL RX9 393 RX9 yX9_needs cX9_needs 3 none 2 := ⟨⟨tm_1876, tm_1878, tms_91, tm_119, tm_1879⟩, by decide +kernel⟩
theorem vl_X9_397 : VL RX9 397 RX9 yX9_goOn cX9_goOn 1 none 0 := ⟨⟨tm_1880, tm_1882, tms_92, tm_119, tm_1883⟩, by decide +kernel⟩
theorem vl_X9_400 : VL RX9 400 RX9 yX9_isName cX9_isName 1 (some .boolean) 0 := ⟨⟨tm_1896, tm_1898, tms_96, tm_119, tm_1899⟩, by decide +kernel⟩
theorem vl_X9_414 : VL RX9 414 RX9 yX9_number cX9_number 4 (some .int) 2 := ⟨⟨tm_1884, tm_1886, tms_93, tm_119, tm_1887⟩, by decide +kernel⟩
theorem vl_X9_411 : VL RX9 411 RX9 yX9_readsOrder cX9_readsOrder 1 none 0 := ⟨⟨tm_1919, tm_1921, tms_101, tm_119, tm_1922⟩, by decide +kernel⟩
theorem vl_X9_417 : VL RX9 417 RX9 yX9_readsOwner cX9_readsOwner 2 (some .int) 0 := ⟨⟨tm_1907, tm_1909, tms_98, tm_119, tm_1910⟩, by decide +kernel⟩
theorem vl_X9_420 : VL RX9 420 RX9 yX9_isWord cX9_isWord 2 (some .boolean) 1 := ⟨⟨tm_1868, tm_1870, tms_89, tm_119, tm_1871⟩, by decide +kernel⟩
theorem vl_X9_432 : VL RX9 432 RX9 yX9_readsOnce cX9_readsOnce 4 none 1 := ⟨⟨tm_1915, tm_1917, tms_100, tm_119, tm_1918⟩, by decide +kernel⟩
theorem vl_X9_429 : VL RX9 429 RX9 yX9_readsAsk cX9_readsAsk 5 none 0 := ⟨⟨tm_1911, tm_1913, tms_99, tm_119, tm_1914⟩, by decide +kernel⟩
theorem vl_X9_426 : VL RX9 426 RX9 yX9_readsLoan cX9_readsLoan 4 none 0 := ⟨⟨tm_1903, tm_1905, tms_97, tm_119, tm_1906⟩, by decide +kernel⟩
theorem vl_X9_423 : VL RX9 423 RX9 yX9_readsProcess cX9_readsProcess 1 none 0 := ⟨⟨tm_1892, tm_1894, tms_95, tm_119, tm_1895⟩, by decide +kernel⟩
theorem vl_X9_58 : VL RX9 58 RX9 yX9_clears cX9_clears 2 none 0 := ⟨⟨tm_1302, tm_1304, tms_34, tm_119, tm_1305⟩, by decide +kernel⟩
theorem vl_X9_64 : VL RX9 64 RX9 yX9_takesDraft cX9_takesDraft 2 none 0 := ⟨⟨tm_1311, tm_1313, tms_35, tm_119, tm_1314⟩, by decide +kernel⟩
theorem vl_X9_435 : VL RX9 435 RX9 yX9_statement cX9_statement 1 none 0 := ⟨⟨tm_1888, tm_1890, tms_94, tm_119, tm_1891⟩, by decide +kernel⟩
theorem dX9_wordHere_0 : decode cX9_wordHere 0 = .ok (.iconst 0, 1) := by decide +kernel
theorem dX9_wordHere_1 : decode cX9_wordHere 1 = .ok (.istore_n 1, 1) := by decide +kernel
theorem dX9_wordHere_2 : decode cX9_wordHere 2 = .ok (.iconst 0, 1) := by decide +kernel
theorem dX9_wordHere_3 : decode cX9_wordHere 3 = .ok (.istore_n 2, 1) := by decide +kernel
theorem dX9_wordHere_4 : decode cX9_wordHere 4 = .ok (.iload_n 2, 1) := by decide +kernel
theorem dX9_wordHere_5 : decode cX9_wordHere 5 = .ok (.ldc_w 373, 3) := by decide +kernel
theorem dX9_wordHere_8 : decode cX9_wordHere 8 = .ok (.invokevirtual 375, 3) := by decide +kernel
theorem dX9_wordHere_11 : decode cX9_wordHere 11 = .ok (.if_icmp .ge 121, 3) := by decide +kernel
theorem dX9_wordHere_14 : decode cX9_wordHere 14 = .ok (.iconst 0, 1) := by decide +kernel
theorem dX9_wordHere_15 : decode cX9_wordHere 15 = .ok (.istore_n 3, 1) := by decide +kernel
theorem dX9_wordHere_16 : decode cX9_wordHere 16 = .ok (.ldc_w 373, 3) := by decide +kernel
theorem dX9_wordHere_19 : decode cX9_wordHere 19 = .ok (.iload_n 2, 1) := by decide +kernel
theorem dX9_wordHere_20 : decode cX9_wordHere 20 = .ok (.iload_n 3, 1) := by decide +kernel
theorem dX9_wordHere_21 : decode cX9_wordHere 21 = .ok (.iadd, 1) := by decide +kernel
theorem dX9_wordHere_22 : decode cX9_wordHere 22 = .ok (.invokevirtual 379, 3) := by decide +kernel
theorem dX9_wordHere_25 : decode cX9_wordHere 25 = .ok (.bipush 32, 2) := by decide +kernel
theorem dX9_wordHere_27 : decode cX9_wordHere 27 = .ok (.if_icmp .eq 46, 3) := by decide +kernel
theorem dX9_wordHere_30 : decode cX9_wordHere 30 = .ok (.aload_n 0, 1) := by decide +kernel
theorem dX9_wordHere_31 : decode cX9_wordHere 31 = .ok (.getfield 343, 3) := by decide +kernel
theorem dX9_wordHere_34 : decode cX9_wordHere 34 = .ok (.iload_n 3, 1) := by decide +kernel
theorem dX9_wordHere_35 : decode cX9_wordHere 35 = .ok (.iadd, 1) := by decide +kernel
theorem dX9_wordHere_36 : decode cX9_wordHere 36 = .ok (.aload_n 0, 1) := by decide +kernel
theorem dX9_wordHere_37 : decode cX9_wordHere 37 = .ok (.getfield 340, 3) := by decide +kernel
theorem dX9_wordHere_40 : decode cX9_wordHere 40 = .ok (.if_icmp .ge 33, 3) := by decide +kernel
theorem dX9_wordHere_43 : decode cX9_wordHere 43 = .ok (.aload_n 0, 1) := by decide +kernel
theorem dX9_wordHere_44 : decode cX9_wordHere 44 = .ok (.getfield 42, 3) := by decide +kernel
theorem dX9_wordHere_47 : decode cX9_wordHere 47 = .ok (.aload_n 0, 1) := by decide +kernel
theorem dX9_wordHere_48 : decode cX9_wordHere 48 = .ok (.getfield 343, 3) := by decide +kernel
theorem dX9_wordHere_51 : decode cX9_wordHere 51 = .ok (.iload_n 3, 1) := by decide +kernel
theorem dX9_wordHere_52 : decode cX9_wordHere 52 = .ok (.iadd, 1) := by decide +kernel
theorem dX9_wordHere_53 : decode cX9_wordHere 53 = .ok (.baload, 1) := by decide +kernel
theorem dX9_wordHere_54 : decode cX9_wordHere 54 = .ok (.ldc_w 373, 3) := by decide +kernel
theorem dX9_wordHere_57 : decode cX9_wordHere 57 = .ok (.iload_n 2, 1) := by decide +kernel
theorem dX9_wordHere_58 : decode cX9_wordHere 58 = .ok (.iload_n 3, 1) := by decide +kernel
theorem dX9_wordHere_59 : decode cX9_wordHere 59 = .ok (.iadd, 1) := by decide +kernel
theorem dX9_wordHere_60 : decode cX9_wordHere 60 = .ok (.invokevirtual 379, 3) := by decide +kernel
theorem dX9_wordHere_63 : decode cX9_wordHere 63 = .ok (.if_icmp .ne 10, 3) := by decide +kernel
theorem dX9_wordHere_66 : decode cX9_wordHere 66 = .ok (.iload_n 3, 1) := by decide +kernel
theorem dX9_wordHere_67 : decode cX9_wordHere 67 = .ok (.iconst 1, 1) := by decide +kernel
theorem dX9_wordHere_68 : decode cX9_wordHere 68 = .ok (.iadd, 1) := by decide +kernel
theorem dX9_wordHere_69 : decode cX9_wordHere 69 = .ok (.istore_n 3, 1) := by decide +kernel
theorem dX9_wordHere_70 : decode cX9_wordHere 70 = .ok (.goto (-54), 3) := by decide +kernel
theorem dX9_wordHere_73 : decode cX9_wordHere 73 = .ok (.ldc_w 373, 3) := by decide +kernel
theorem dX9_wordHere_76 : decode cX9_wordHere 76 = .ok (.iload_n 2, 1) := by decide +kernel
theorem dX9_wordHere_77 : decode cX9_wordHere 77 = .ok (.iload_n 3, 1) := by decide +kernel
theorem dX9_wordHere_78 : decode cX9_wordHere 78 = .ok (.iadd, 1) := by decide +kernel
theorem dX9_wordHere_79 : decode cX9_wordHere 79 = .ok (.invokevirtual 379, 3) := by decide +kernel
theorem dX9_wordHere_82 : decode cX9_wordHere 82 = .ok (.bipush 32, 2) := by decide +kernel
theorem dX9_wordHere_84 : decode cX9_wordHere 84 = .ok (.if_icmp .ne 18, 3) := by decide +kernel
theorem dX9_wordHere_87 : decode cX9_wordHere 87 = .ok (.aload_n 0, 1) := by decide +kernel
theorem dX9_wordHere_88 : decode cX9_wordHere 88 = .ok (.getfield 343, 3) := by decide +kernel
theorem dX9_wordHere_91 : decode cX9_wordHere 91 = .ok (.iload_n 3, 1) := by decide +kernel
theorem dX9_wordHere_92 : decode cX9_wordHere 92 = .ok (.iadd, 1) := by decide +kernel
theorem dX9_wordHere_93 : decode cX9_wordHere 93 = .ok (.aload_n 0, 1) := by decide +kernel
theorem dX9_wordHere_94 : decode cX9_wordHere 94 = .ok (.getfield 340, 3) := by decide +kernel
theorem dX9_wordHere_97 : decode cX9_wordHere 97 = .ok (.if_icmp .ne 5, 3) := by decide +kernel
theorem dX9_wordHere_100 : decode cX9_wordHere 100 = .ok (.iload_n 1, 1) := by decide +kernel
theorem dX9_wordHere_101 : decode cX9_wordHere 101 = .ok (.ireturn, 1) := by decide +kernel
theorem dX9_wordHere_102 : decode cX9_wordHere 102 = .ok (.ldc_w 373, 3) := by decide +kernel
theorem dX9_wordHere_105 : decode cX9_wordHere 105 = .ok (.iload_n 2, 1) := by decide +kernel
theorem dX9_wordHere_106 : decode cX9_wordHere 106 = .ok (.invokevirtual 379, 3) := by decide +kernel
theorem dX9_wordHere_109 : decode cX9_wordHere 109 = .ok (.bipush 32, 2) := by decide +kernel
theorem dX9_wordHere_111 : decode cX9_wordHere 111 = .ok (.if_icmp .eq 10, 3) := by decide +kernel
theorem dX9_wordHere_114 : decode cX9_wordHere 114 = .ok (.iload_n 2, 1) := by decide +kernel
theorem dX9_wordHere_115 : decode cX9_wordHere 115 = .ok (.iconst 1, 1) := by decide +kernel
theorem dX9_wordHere_116 : decode cX9_wordHere 116 = .ok (.iadd, 1) := by decide +kernel
theorem dX9_wordHere_117 : decode cX9_wordHere 117 = .ok (.istore_n 2, 1) := by decide +kernel
theorem dX9_wordHere_118 : decode cX9_wordHere 118 = .ok (.goto (-16), 3) := by decide +kernel
theorem dX9_wordHere_121 : decode cX9_wordHere 121 = .ok (.iload_n 2, 1) := by decide +kernel
theorem dX9_wordHere_122 : decode cX9_wordHere 122 = .ok (.iconst 1, 1) := by decide +kernel
theorem dX9_wordHere_123 : decode cX9_wordHere 123 = .ok (.iadd, 1) := by decide +kernel
theorem dX9_wordHere_124 : decode cX9_wordHere 124 = .ok (.istore_n 2, 1) := by decide +kernel
theorem dX9_wordHere_125 : decode cX9_wordHere 125 = .ok (.iload_n 1, 1) := by decide +kernel
theorem dX9_wordHere_126 : decode cX9_wordHere 126 = .ok (.iconst 1, 1) := by decide +kernel
theorem dX9_wordHere_127 : decode cX9_wordHere 127 = .ok (.iadd, 1) := by decide +kernel
theorem dX9_wordHere_128 : decode cX9_wordHere 128 = .ok (.istore_n 1, 1) := by decide +kernel
theorem dX9_wordHere_129 : decode cX9_wordHere 129 = .ok (.goto (-125), 3) := by decide +kernel
theorem dX9_wordHere_132 : decode cX9_wordHere 132 = .ok (.iconst (-1), 1) := by decide +kernel
theorem dX9_wordHere_133 : decode cX9_wordHere 133 = .ok (.ireturn, 1) := by decide +kernel
theorem dX9_next_0 : decode cX9_next 0 = .ok (.aload_n 0, 1) := by decide +kernel
theorem dX9_next_1 : decode cX9_next 1 = .ok (.aload_n 0, 1) := by decide +kernel
theorem dX9_next_2 : decode cX9_next 2 = .ok (.getfield 340, 3) := by decide +kernel
theorem dX9_next_5 : decode cX9_next 5 = .ok (.invokevirtual 333, 3) := by decide +kernel
theorem dX9_next_8 : decode cX9_next 8 = .ok (.bipush 32, 2) := by decide +kernel
theorem dX9_next_10 : decode cX9_next 10 = .ok (.if_icmp .eq 16, 3) := by decide +kernel
theorem dX9_next_13 : decode cX9_next 13 = .ok (.aload_n 0, 1) := by decide +kernel
theorem dX9_next_14 : decode cX9_next 14 = .ok (.aload_n 0, 1) := by decide +kernel
theorem dX9_next_15 : decode cX9_next 15 = .ok (.getfield 340, 3) := by decide +kernel
theorem dX9_next_18 : decode cX9_next 18 = .ok (.invokevirtual 333, 3) := by decide +kernel
theorem dX9_next_21 : decode cX9_next 21 = .ok (.bipush 10, 2) := by decide +kernel
theorem dX9_next_23 : decode cX9_next 23 = .ok (.if_icmp .ne 16, 3) := by decide +kernel
theorem dX9_next_26 : decode cX9_next 26 = .ok (.aload_n 0, 1) := by decide +kernel
theorem dX9_next_27 : decode cX9_next 27 = .ok (.aload_n 0, 1) := by decide +kernel
theorem dX9_next_28 : decode cX9_next 28 = .ok (.getfield 340, 3) := by decide +kernel
theorem dX9_next_31 : decode cX9_next 31 = .ok (.iconst 1, 1) := by decide +kernel
theorem dX9_next_32 : decode cX9_next 32 = .ok (.iadd, 1) := by decide +kernel
theorem dX9_next_33 : decode cX9_next 33 = .ok (.putfield 340, 3) := by decide +kernel
theorem dX9_next_36 : decode cX9_next 36 = .ok (.goto (-36), 3) := by decide +kernel
theorem dX9_next_39 : decode cX9_next 39 = .ok (.aload_n 0, 1) := by decide +kernel
theorem dX9_next_40 : decode cX9_next 40 = .ok (.aload_n 0, 1) := by decide +kernel
theorem dX9_next_41 : decode cX9_next 41 = .ok (.getfield 340, 3) := by decide +kernel
theorem dX9_next_44 : decode cX9_next 44 = .ok (.putfield 343, 3) := by decide +kernel
theorem dX9_next_47 : decode cX9_next 47 = .ok (.aload_n 0, 1) := by decide +kernel
theorem dX9_next_48 : decode cX9_next 48 = .ok (.aload_n 0, 1) := by decide +kernel
theorem dX9_next_49 : decode cX9_next 49 = .ok (.getfield 340, 3) := by decide +kernel
theorem dX9_next_52 : decode cX9_next 52 = .ok (.invokevirtual 333, 3) := by decide +kernel
theorem dX9_next_55 : decode cX9_next 55 = .ok (.istore_n 1, 1) := by decide +kernel
theorem dX9_next_56 : decode cX9_next 56 = .ok (.iload_n 1, 1) := by decide +kernel
theorem dX9_next_57 : decode cX9_next 57 = .ok (.iconst (-1), 1) := by decide +kernel
theorem dX9_next_58 : decode cX9_next 58 = .ok (.if_icmp .ne 11, 3) := by decide +kernel
theorem dX9_next_61 : decode cX9_next 61 = .ok (.aload_n 0, 1) := by decide +kernel
theorem dX9_next_62 : decode cX9_next 62 = .ok (.iconst 0, 1) := by decide +kernel
theorem dX9_next_63 : decode cX9_next 63 = .ok (.putfield 346, 3) := by decide +kernel
theorem dX9_next_66 : decode cX9_next 66 = .ok (.goto 238, 3) := by decide +kernel
theorem dX9_next_69 : decode cX9_next 69 = .ok (.aload_n 0, 1) := by decide +kernel
theorem dX9_next_70 : decode cX9_next 70 = .ok (.aload_n 0, 1) := by decide +kernel
theorem dX9_next_71 : decode cX9_next 71 = .ok (.getfield 340, 3) := by decide +kernel
theorem dX9_next_74 : decode cX9_next 74 = .ok (.invokevirtual 349, 3) := by decide +kernel
theorem dX9_next_77 : decode cX9_next 77 = .ok (.ifCond .eq 88, 3) := by decide +kernel
theorem dX9_next_80 : decode cX9_next 80 = .ok (.aload_n 0, 1) := by decide +kernel
theorem dX9_next_81 : decode cX9_next 81 = .ok (.lconst 0, 1) := by decide +kernel
theorem dX9_next_82 : decode cX9_next 82 = .ok (.putfield 352, 3) := by decide +kernel
theorem dX9_next_85 : decode cX9_next 85 = .ok (.aload_n 0, 1) := by decide +kernel
theorem dX9_next_86 : decode cX9_next 86 = .ok (.aload_n 0, 1) := by decide +kernel
theorem dX9_next_87 : decode cX9_next 87 = .ok (.getfield 340, 3) := by decide +kernel
theorem dX9_next_90 : decode cX9_next 90 = .ok (.invokevirtual 349, 3) := by decide +kernel
theorem dX9_next_93 : decode cX9_next 93 = .ok (.ifCond .eq 56, 3) := by decide +kernel
theorem dX9_next_96 : decode cX9_next 96 = .ok (.aload_n 0, 1) := by decide +kernel
theorem dX9_next_97 : decode cX9_next 97 = .ok (.getfield 340, 3) := by decide +kernel
theorem dX9_next_100 : decode cX9_next 100 = .ok (.aload_n 0, 1) := by decide +kernel
theorem dX9_next_101 : decode cX9_next 101 = .ok (.getfield 343, 3) := by decide +kernel
theorem dX9_next_104 : decode cX9_next 104 = .ok (.isub, 1) := by decide +kernel
theorem dX9_next_105 : decode cX9_next 105 = .ok (.bipush 6, 2) := by decide +kernel
theorem dX9_next_107 : decode cX9_next 107 = .ok (.if_icmp .ge 29, 3) := by decide +kernel
theorem dX9_next_110 : decode cX9_next 110 = .ok (.aload_n 0, 1) := by decide +kernel
theorem dX9_next_111 : decode cX9_next 111 = .ok (.ldc2_w 356, 3) := by decide +kernel
theorem dX9_next_114 : decode cX9_next 114 = .ok (.aload_n 0, 1) := by decide +kernel
theorem dX9_next_115 : decode cX9_next 115 = .ok (.getfield 352, 3) := by decide +kernel
theorem dX9_next_118 : decode cX9_next 118 = .ok (.lmul, 1) := by decide +kernel
theorem dX9_next_119 : decode cX9_next 119 = .ok (.aload_n 0, 1) := by decide +kernel
theorem dX9_next_120 : decode cX9_next 120 = .ok (.aload_n 0, 1) := by decide +kernel
theorem dX9_next_121 : decode cX9_next 121 = .ok (.getfield 340, 3) := by decide +kernel
theorem dX9_next_124 : decode cX9_next 124 = .ok (.invokevirtual 333, 3) := by decide +kernel
theorem dX9_next_127 : decode cX9_next 127 = .ok (.i2l, 1) := by decide +kernel
theorem dX9_next_128 : decode cX9_next 128 = .ok (.ladd, 1) := by decide +kernel
theorem dX9_next_129 : decode cX9_next 129 = .ok (.ldc2_w 358, 3) := by decide +kernel
theorem dX9_next_132 : decode cX9_next 132 = .ok (.lsub, 1) := by decide +kernel
theorem dX9_next_133 : decode cX9_next 133 = .ok (.putfield 352, 3) := by decide +kernel
theorem dX9_next_136 : decode cX9_next 136 = .ok (.aload_n 0, 1) := by decide +kernel
theorem dX9_next_137 : decode cX9_next 137 = .ok (.dup, 1) := by decide +kernel
theorem dX9_next_138 : decode cX9_next 138 = .ok (.getfield 340, 3) := by decide +kernel
theorem dX9_next_141 : decode cX9_next 141 = .ok (.iconst 1, 1) := by decide +kernel
theorem dX9_next_142 : decode cX9_next 142 = .ok (.iadd, 1) := by decide +kernel
theorem dX9_next_143 : decode cX9_next 143 = .ok (.putfield 340, 3) := by decide +kernel
theorem dX9_next_146 : decode cX9_next 146 = .ok (.goto (-61), 3) := by decide +kernel
theorem dX9_next_149 : decode cX9_next 149 = .ok (.aload_n 0, 1) := by decide +kernel
theorem dX9_next_150 : decode cX9_next 150 = .ok (.iconst 1, 1) := by decide +kernel
theorem dX9_next_151 : decode cX9_next 151 = .ok (.putfield 346, 3) := by decide +kernel
theorem dX9_next_154 : decode cX9_next 154 = .ok (.aload_n 0, 1) := by decide +kernel
theorem dX9_next_155 : decode cX9_next 155 = .ok (.aload_n 0, 1) := by decide +kernel
theorem dX9_next_156 : decode cX9_next 156 = .ok (.invokevirtual 360, 3) := by decide +kernel
theorem dX9_next_159 : decode cX9_next 159 = .ok (.putfield 363, 3) := by decide +kernel
theorem dX9_next_162 : decode cX9_next 162 = .ok (.goto 142, 3) := by decide +kernel
theorem dX9_next_165 : decode cX9_next 165 = .ok (.iload_n 1, 1) := by decide +kernel
theorem dX9_next_166 : decode cX9_next 166 = .ok (.i2l, 1) := by decide +kernel
theorem dX9_next_167 : decode cX9_next 167 = .ok (.ldc2_w 366, 3) := by decide +kernel
theorem dX9_next_170 : decode cX9_next 170 = .ok (.ldc2_w 368, 3) := by decide +kernel
theorem dX9_next_173 : decode cX9_next 173 = .ok (.invokestatic 92, 3) := by decide +kernel
theorem dX9_next_176 : decode cX9_next 176 = .ok (.ifCond .eq 103, 3) := by decide +kernel
theorem dX9_next_179 : decode cX9_next 179 = .ok (.aload_n 0, 1) := by decide +kernel
theorem dX9_next_180 : decode cX9_next 180 = .ok (.iconst 0, 1) := by decide +kernel
theorem dX9_next_181 : decode cX9_next 181 = .ok (.putfield 370, 3) := by decide +kernel
theorem dX9_next_184 : decode cX9_next 184 = .ok (.aload_n 0, 1) := by decide +kernel
theorem dX9_next_185 : decode cX9_next 185 = .ok (.aload_n 0, 1) := by decide +kernel
theorem dX9_next_186 : decode cX9_next 186 = .ok (.getfield 340, 3) := by decide +kernel
theorem dX9_next_189 : decode cX9_next 189 = .ok (.invokevirtual 333, 3) := by decide +kernel
theorem dX9_next_192 : decode cX9_next 192 = .ok (.i2l, 1) := by decide +kernel
theorem dX9_next_193 : decode cX9_next 193 = .ok (.ldc2_w 366, 3) := by decide +kernel
theorem dX9_next_196 : decode cX9_next 196 = .ok (.ldc2_w 368, 3) := by decide +kernel
theorem dX9_next_199 : decode cX9_next 199 = .ok (.invokestatic 92, 3) := by decide +kernel
theorem dX9_next_202 : decode cX9_next 202 = .ok (.ifCond .eq 52, 3) := by decide +kernel
theorem dX9_next_205 : decode cX9_next 205 = .ok (.aload_n 0, 1) := by decide +kernel
theorem dX9_next_206 : decode cX9_next 206 = .ok (.getfield 340, 3) := by decide +kernel
theorem dX9_next_209 : decode cX9_next 209 = .ok (.aload_n 0, 1) := by decide +kernel
theorem dX9_next_210 : decode cX9_next 210 = .ok (.getfield 343, 3) := by decide +kernel
theorem dX9_next_213 : decode cX9_next 213 = .ok (.isub, 1) := by decide +kernel
theorem dX9_next_214 : decode cX9_next 214 = .ok (.iconst 3, 1) := by decide +kernel
theorem dX9_next_215 : decode cX9_next 215 = .ok (.if_icmp .ge 26, 3) := by decide +kernel
theorem dX9_next_218 : decode cX9_next 218 = .ok (.aload_n 0, 1) := by decide +kernel
theorem dX9_next_219 : decode cX9_next 219 = .ok (.bipush 10, 2) := by decide +kernel
theorem dX9_next_221 : decode cX9_next 221 = .ok (.aload_n 0, 1) := by decide +kernel
theorem dX9_next_222 : decode cX9_next 222 = .ok (.getfield 370, 3) := by decide +kernel
theorem dX9_next_225 : decode cX9_next 225 = .ok (.imul, 1) := by decide +kernel
theorem dX9_next_226 : decode cX9_next 226 = .ok (.aload_n 0, 1) := by decide +kernel
theorem dX9_next_227 : decode cX9_next 227 = .ok (.aload_n 0, 1) := by decide +kernel
theorem dX9_next_228 : decode cX9_next 228 = .ok (.getfield 340, 3) := by decide +kernel
theorem dX9_next_231 : decode cX9_next 231 = .ok (.invokevirtual 333, 3) := by decide +kernel
theorem dX9_next_234 : decode cX9_next 234 = .ok (.iadd, 1) := by decide +kernel
theorem dX9_next_235 : decode cX9_next 235 = .ok (.bipush 48, 2) := by decide +kernel
theorem dX9_next_237 : decode cX9_next 237 = .ok (.isub, 1) := by decide +kernel
theorem dX9_next_238 : decode cX9_next 238 = .ok (.putfield 370, 3) := by decide +kernel
theorem dX9_next_241 : decode cX9_next 241 = .ok (.aload_n 0, 1) := by decide +kernel
theorem dX9_next_242 : decode cX9_next 242 = .ok (.dup, 1) := by decide +kernel
theorem dX9_next_243 : decode cX9_next 243 = .ok (.getfield 340, 3) := by decide +kernel
theorem dX9_next_246 : decode cX9_next 246 = .ok (.iconst 1, 1) := by decide +kernel
theorem dX9_next_247 : decode cX9_next 247 = .ok (.iadd, 1) := by decide +kernel
theorem dX9_next_248 : decode cX9_next 248 = .ok (.putfield 340, 3) := by decide +kernel
theorem dX9_next_251 : decode cX9_next 251 = .ok (.goto (-67), 3) := by decide +kernel
theorem dX9_next_254 : decode cX9_next 254 = .ok (.aload_n 0, 1) := by decide +kernel
theorem dX9_next_255 : decode cX9_next 255 = .ok (.aload_n 0, 1) := by decide +kernel
theorem dX9_next_256 : decode cX9_next 256 = .ok (.getfield 340, 3) := by decide +kernel
theorem dX9_next_259 : decode cX9_next 259 = .ok (.aload_n 0, 1) := by decide +kernel
theorem dX9_next_260 : decode cX9_next 260 = .ok (.getfield 343, 3) := by decide +kernel
theorem dX9_next_263 : decode cX9_next 263 = .ok (.isub, 1) := by decide +kernel
theorem dX9_next_264 : decode cX9_next 264 = .ok (.iconst 3, 1) := by decide +kernel
theorem dX9_next_265 : decode cX9_next 265 = .ok (.if_icmp .le 7, 3) := by decide +kernel
theorem dX9_next_268 : decode cX9_next 268 = .ok (.iconst 4, 1) := by decide +kernel
theorem dX9_next_269 : decode cX9_next 269 = .ok (.goto 4, 3) := by decide +kernel
theorem dX9_next_272 : decode cX9_next 272 = .ok (.iconst 2, 1) := by decide +kernel
theorem dX9_next_273 : decode cX9_next 273 = .ok (.putfield 346, 3) := by decide +kernel
theorem dX9_next_276 : decode cX9_next 276 = .ok (.goto 28, 3) := by decide +kernel
theorem dX9_next_279 : decode cX9_next 279 = .ok (.aload_n 0, 1) := by decide +kernel
theorem dX9_next_280 : decode cX9_next 280 = .ok (.aload_n 0, 1) := by decide +kernel
theorem dX9_next_281 : decode cX9_next 281 = .ok (.getfield 340, 3) := by decide +kernel
theorem dX9_next_284 : decode cX9_next 284 = .ok (.iconst 1, 1) := by decide +kernel
theorem dX9_next_285 : decode cX9_next 285 = .ok (.iadd, 1) := by decide +kernel
theorem dX9_next_286 : decode cX9_next 286 = .ok (.putfield 340, 3) := by decide +kernel
theorem dX9_next_289 : decode cX9_next 289 = .ok (.aload_n 0, 1) := by decide +kernel
theorem dX9_next_290 : decode cX9_next 290 = .ok (.iload_n 1, 1) := by decide +kernel
theorem dX9_next_291 : decode cX9_next 291 = .ok (.bipush 59, 2) := by decide +kernel
theorem dX9_next_293 : decode cX9_next 293 = .ok (.if_icmp .ne 7, 3) := by decide +kernel
theorem dX9_next_296 : decode cX9_next 296 = .ok (.iconst 3, 1) := by decide +kernel
theorem dX9_next_297 : decode cX9_next 297 = .ok (.goto 4, 3) := by decide +kernel
theorem dX9_next_300 : decode cX9_next 300 = .ok (.iconst 4, 1) := by decide +kernel
theorem dX9_next_301 : decode cX9_next 301 = .ok (.putfield 346, 3) := by decide +kernel
theorem dX9_next_304 : decode cX9_next 304 = .ok (.return_, 1) := by decide +kernel
theorem dX9_goOn_0 : decode cX9_goOn 0 = .ok (.aload_n 0, 1) := by decide +kernel
theorem dX9_goOn_1 : decode cX9_goOn 1 = .ok (.invokevirtual 386, 3) := by decide +kernel
theorem dX9_goOn_4 : decode cX9_goOn 4 = .ok (.ifCond .eq 7, 3) := by decide +kernel
theorem dX9_goOn_7 : decode cX9_goOn 7 = .ok (.aload_n 0, 1) := by decide +kernel
theorem dX9_goOn_8 : decode cX9_goOn 8 = .ok (.invokevirtual 390, 3) := by decide +kernel
theorem dX9_goOn_11 : decode cX9_goOn 11 = .ok (.return_, 1) := by decide +kernel
theorem dX9_number_0 : decode cX9_number 0 = .ok (.aload_n 0, 1) := by decide +kernel
theorem dX9_number_1 : decode cX9_number 1 = .ok (.aload_n 0, 1) := by decide +kernel
theorem dX9_number_2 : decode cX9_number 2 = .ok (.getfield 346, 3) := by decide +kernel
theorem dX9_number_5 : decode cX9_number 5 = .ok (.iconst 2, 1) := by decide +kernel
theorem dX9_number_6 : decode cX9_number 6 = .ok (.if_icmp .ne 7, 3) := by decide +kernel
theorem dX9_number_9 : decode cX9_number 9 = .ok (.iconst 1, 1) := by decide +kernel
theorem dX9_number_10 : decode cX9_number 10 = .ok (.goto 4, 3) := by decide +kernel
theorem dX9_number_13 : decode cX9_number 13 = .ok (.iconst 0, 1) := by decide +kernel
theorem dX9_number_14 : decode cX9_number 14 = .ok (.iconst 1, 1) := by decide +kernel
theorem dX9_number_15 : decode cX9_number 15 = .ok (.invokevirtual 393, 3) := by decide +kernel
theorem dX9_number_18 : decode cX9_number 18 = .ok (.aload_n 0, 1) := by decide +kernel
theorem dX9_number_19 : decode cX9_number 19 = .ok (.invokevirtual 386, 3) := by decide +kernel
theorem dX9_number_22 : decode cX9_number 22 = .ok (.ifCond .eq 20, 3) := by decide +kernel
theorem dX9_number_25 : decode cX9_number 25 = .ok (.aload_n 0, 1) := by decide +kernel
theorem dX9_number_26 : decode cX9_number 26 = .ok (.aload_n 0, 1) := by decide +kernel
theorem dX9_number_27 : decode cX9_number 27 = .ok (.getfield 370, 3) := by decide +kernel
theorem dX9_number_30 : decode cX9_number 30 = .ok (.i2l, 1) := by decide +kernel
theorem dX9_number_31 : decode cX9_number 31 = .ok (.iload_n 1, 1) := by decide +kernel
theorem dX9_number_32 : decode cX9_number 32 = .ok (.i2l, 1) := by decide +kernel
theorem dX9_number_33 : decode cX9_number 33 = .ok (.iload_n 2, 1) := by decide +kernel
theorem dX9_number_34 : decode cX9_number 34 = .ok (.i2l, 1) := by decide +kernel
theorem dX9_number_35 : decode cX9_number 35 = .ok (.invokestatic 92, 3) := by decide +kernel
theorem dX9_number_38 : decode cX9_number 38 = .ok (.iconst 2, 1) := by decide +kernel
theorem dX9_number_39 : decode cX9_number 39 = .ok (.invokevirtual 393, 3) := by decide +kernel
theorem dX9_number_42 : decode cX9_number 42 = .ok (.aload_n 0, 1) := by decide +kernel
theorem dX9_number_43 : decode cX9_number 43 = .ok (.getfield 370, 3) := by decide +kernel
theorem dX9_number_46 : decode cX9_number 46 = .ok (.istore_n 3, 1) := by decide +kernel
theorem dX9_number_47 : decode cX9_number 47 = .ok (.aload_n 0, 1) := by decide +kernel
theorem dX9_number_48 : decode cX9_number 48 = .ok (.invokevirtual 397, 3) := by decide +kernel
theorem dX9_number_51 : decode cX9_number 51 = .ok (.iload_n 3, 1) := by decide +kernel
theorem dX9_number_52 : decode cX9_number 52 = .ok (.ireturn, 1) := by decide +kernel
theorem dX9_readsProcess_0 : decode cX9_readsProcess 0 = .ok (.aload_n 0, 1) := by decide +kernel
theorem dX9_readsProcess_1 : decode cX9_readsProcess 1 = .ok (.aload_n 0, 1) := by decide +kernel
theorem dX9_readsProcess_2 : decode cX9_readsProcess 2 = .ok (.getfield 314, 3) := by decide +kernel
theorem dX9_readsProcess_5 : decode cX9_readsProcess 5 = .ok (.bipush 8, 2) := by decide +kernel
theorem dX9_readsProcess_7 : decode cX9_readsProcess 7 = .ok (.if_icmp .ge 7, 3) := by decide +kernel
theorem dX9_readsProcess_10 : decode cX9_readsProcess 10 = .ok (.iconst 1, 1) := by decide +kernel
theorem dX9_readsProcess_11 : decode cX9_readsProcess 11 = .ok (.goto 4, 3) := by decide +kernel
theorem dX9_readsProcess_14 : decode cX9_readsProcess 14 = .ok (.iconst 0, 1) := by decide +kernel
theorem dX9_readsProcess_15 : decode cX9_readsProcess 15 = .ok (.iconst 4, 1) := by decide +kernel
theorem dX9_readsProcess_16 : decode cX9_readsProcess 16 = .ok (.invokevirtual 393, 3) := by decide +kernel
theorem dX9_readsProcess_19 : decode cX9_readsProcess 19 = .ok (.aload_n 0, 1) := by decide +kernel
theorem dX9_readsProcess_20 : decode cX9_readsProcess 20 = .ok (.invokevirtual 397, 3) := by decide +kernel
theorem dX9_readsProcess_23 : decode cX9_readsProcess 23 = .ok (.aload_n 0, 1) := by decide +kernel
theorem dX9_readsProcess_24 : decode cX9_readsProcess 24 = .ok (.aload_n 0, 1) := by decide +kernel
theorem dX9_readsProcess_25 : decode cX9_readsProcess 25 = .ok (.invokevirtual 400, 3) := by decide +kernel
theorem dX9_readsProcess_28 : decode cX9_readsProcess 28 = .ok (.iconst 1, 1) := by decide +kernel
theorem dX9_readsProcess_29 : decode cX9_readsProcess 29 = .ok (.invokevirtual 393, 3) := by decide +kernel
theorem dX9_readsProcess_32 : decode cX9_readsProcess 32 = .ok (.aload_n 0, 1) := by decide +kernel
theorem dX9_readsProcess_33 : decode cX9_readsProcess 33 = .ok (.invokevirtual 386, 3) := by decide +kernel
theorem dX9_readsProcess_36 : decode cX9_readsProcess 36 = .ok (.ifCond .eq 32, 3) := by decide +kernel
theorem dX9_readsProcess_39 : decode cX9_readsProcess 39 = .ok (.aload_n 0, 1) := by decide +kernel
theorem dX9_readsProcess_40 : decode cX9_readsProcess 40 = .ok (.aload_n 0, 1) := by decide +kernel
theorem dX9_readsProcess_41 : decode cX9_readsProcess 41 = .ok (.getfield 52, 3) := by decide +kernel
theorem dX9_readsProcess_44 : decode cX9_readsProcess 44 = .ok (.aload_n 0, 1) := by decide +kernel
theorem dX9_readsProcess_45 : decode cX9_readsProcess 45 = .ok (.getfield 314, 3) := by decide +kernel
theorem dX9_readsProcess_48 : decode cX9_readsProcess 48 = .ok (.aload_n 0, 1) := by decide +kernel
theorem dX9_readsProcess_49 : decode cX9_readsProcess 49 = .ok (.getfield 352, 3) := by decide +kernel
theorem dX9_readsProcess_52 : decode cX9_readsProcess 52 = .ok (.invokestatic 403, 3) := by decide +kernel
theorem dX9_readsProcess_55 : decode cX9_readsProcess 55 = .ok (.iconst (-1), 1) := by decide +kernel
theorem dX9_readsProcess_56 : decode cX9_readsProcess 56 = .ok (.if_icmp .ne 7, 3) := by decide +kernel
theorem dX9_readsProcess_59 : decode cX9_readsProcess 59 = .ok (.iconst 1, 1) := by decide +kernel
theorem dX9_readsProcess_60 : decode cX9_readsProcess 60 = .ok (.goto 4, 3) := by decide +kernel
theorem dX9_readsProcess_63 : decode cX9_readsProcess 63 = .ok (.iconst 0, 1) := by decide +kernel
theorem dX9_readsProcess_64 : decode cX9_readsProcess 64 = .ok (.iconst 3, 1) := by decide +kernel
theorem dX9_readsProcess_65 : decode cX9_readsProcess 65 = .ok (.invokevirtual 393, 3) := by decide +kernel
theorem dX9_readsProcess_68 : decode cX9_readsProcess 68 = .ok (.aload_n 0, 1) := by decide +kernel
theorem dX9_readsProcess_69 : decode cX9_readsProcess 69 = .ok (.invokevirtual 386, 3) := by decide +kernel
theorem dX9_readsProcess_72 : decode cX9_readsProcess 72 = .ok (.ifCond .ne 4, 3) := by decide +kernel
theorem dX9_readsProcess_75 : decode cX9_readsProcess 75 = .ok (.return_, 1) := by decide +kernel
theorem dX9_readsProcess_76 : decode cX9_readsProcess 76 = .ok (.aload_n 0, 1) := by decide +kernel
theorem dX9_readsProcess_77 : decode cX9_readsProcess 77 = .ok (.getfield 52, 3) := by decide +kernel
theorem dX9_readsProcess_80 : decode cX9_readsProcess 80 = .ok (.aload_n 0, 1) := by decide +kernel
theorem dX9_readsProcess_81 : decode cX9_readsProcess 81 = .ok (.getfield 314, 3) := by decide +kernel
theorem dX9_readsProcess_84 : decode cX9_readsProcess 84 = .ok (.aload_n 0, 1) := by decide +kernel
theorem dX9_readsProcess_85 : decode cX9_readsProcess 85 = .ok (.getfield 352, 3) := by decide +kernel
theorem dX9_readsProcess_88 : decode cX9_readsProcess 88 = .ok (.lastore, 1) := by decide +kernel
theorem dX9_readsProcess_89 : decode cX9_readsProcess 89 = .ok (.aload_n 0, 1) := by decide +kernel
theorem dX9_readsProcess_90 : decode cX9_readsProcess 90 = .ok (.aload_n 0, 1) := by decide +kernel
theorem dX9_readsProcess_91 : decode cX9_readsProcess 91 = .ok (.getfield 314, 3) := by decide +kernel
theorem dX9_readsProcess_94 : decode cX9_readsProcess 94 = .ok (.iconst 1, 1) := by decide +kernel
theorem dX9_readsProcess_95 : decode cX9_readsProcess 95 = .ok (.iadd, 1) := by decide +kernel
theorem dX9_readsProcess_96 : decode cX9_readsProcess 96 = .ok (.putfield 314, 3) := by decide +kernel
theorem dX9_readsProcess_99 : decode cX9_readsProcess 99 = .ok (.aload_n 0, 1) := by decide +kernel
theorem dX9_readsProcess_100 : decode cX9_readsProcess 100 = .ok (.invokevirtual 397, 3) := by decide +kernel
theorem dX9_readsProcess_103 : decode cX9_readsProcess 103 = .ok (.return_, 1) := by decide +kernel
theorem dX9_readsOwner_0 : decode cX9_readsOwner 0 = .ok (.aload_n 0, 1) := by decide +kernel
theorem dX9_readsOwner_1 : decode cX9_readsOwner 1 = .ok (.aload_n 0, 1) := by decide +kernel
theorem dX9_readsOwner_2 : decode cX9_readsOwner 2 = .ok (.invokevirtual 400, 3) := by decide +kernel
theorem dX9_readsOwner_5 : decode cX9_readsOwner 5 = .ok (.iconst 1, 1) := by decide +kernel
theorem dX9_readsOwner_6 : decode cX9_readsOwner 6 = .ok (.invokevirtual 393, 3) := by decide +kernel
theorem dX9_readsOwner_9 : decode cX9_readsOwner 9 = .ok (.aload_n 0, 1) := by decide +kernel
theorem dX9_readsOwner_10 : decode cX9_readsOwner 10 = .ok (.getfield 52, 3) := by decide +kernel
theorem dX9_readsOwner_13 : decode cX9_readsOwner 13 = .ok (.aload_n 0, 1) := by decide +kernel
theorem dX9_readsOwner_14 : decode cX9_readsOwner 14 = .ok (.getfield 314, 3) := by decide +kernel
theorem dX9_readsOwner_17 : decode cX9_readsOwner 17 = .ok (.aload_n 0, 1) := by decide +kernel
theorem dX9_readsOwner_18 : decode cX9_readsOwner 18 = .ok (.getfield 352, 3) := by decide +kernel
theorem dX9_readsOwner_21 : decode cX9_readsOwner 21 = .ok (.invokestatic 403, 3) := by decide +kernel
theorem dX9_readsOwner_24 : decode cX9_readsOwner 24 = .ok (.istore_n 1, 1) := by decide +kernel
theorem dX9_readsOwner_25 : decode cX9_readsOwner 25 = .ok (.aload_n 0, 1) := by decide +kernel
theorem dX9_readsOwner_26 : decode cX9_readsOwner 26 = .ok (.invokevirtual 386, 3) := by decide +kernel
theorem dX9_readsOwner_29 : decode cX9_readsOwner 29 = .ok (.ifCond .eq 18, 3) := by decide +kernel
theorem dX9_readsOwner_32 : decode cX9_readsOwner 32 = .ok (.aload_n 0, 1) := by decide +kernel
theorem dX9_readsOwner_33 : decode cX9_readsOwner 33 = .ok (.iload_n 1, 1) := by decide +kernel
theorem dX9_readsOwner_34 : decode cX9_readsOwner 34 = .ok (.iconst (-1), 1) := by decide +kernel
theorem dX9_readsOwner_35 : decode cX9_readsOwner 35 = .ok (.if_icmp .eq 7, 3) := by decide +kernel
theorem dX9_readsOwner_38 : decode cX9_readsOwner 38 = .ok (.iconst 1, 1) := by decide +kernel
theorem dX9_readsOwner_39 : decode cX9_readsOwner 39 = .ok (.goto 4, 3) := by decide +kernel
theorem dX9_readsOwner_42 : decode cX9_readsOwner 42 = .ok (.iconst 0, 1) := by decide +kernel
theorem dX9_readsOwner_43 : decode cX9_readsOwner 43 = .ok (.iconst 3, 1) := by decide +kernel
theorem dX9_readsOwner_44 : decode cX9_readsOwner 44 = .ok (.invokevirtual 393, 3) := by decide +kernel
theorem dX9_readsOwner_47 : decode cX9_readsOwner 47 = .ok (.aload_n 0, 1) := by decide +kernel
theorem dX9_readsOwner_48 : decode cX9_readsOwner 48 = .ok (.invokevirtual 397, 3) := by decide +kernel
theorem dX9_readsOwner_51 : decode cX9_readsOwner 51 = .ok (.iload_n 1, 1) := by decide +kernel
theorem dX9_readsOwner_52 : decode cX9_readsOwner 52 = .ok (.ireturn, 1) := by decide +kernel
theorem dX9_readsOrder_0 : decode cX9_readsOrder 0 = .ok (.aload_n 0, 1) := by decide +kernel
theorem dX9_readsOrder_1 : decode cX9_readsOrder 1 = .ok (.aload_n 0, 1) := by decide +kernel
theorem dX9_readsOrder_2 : decode cX9_readsOrder 2 = .ok (.getfield 346, 3) := by decide +kernel
theorem dX9_readsOrder_5 : decode cX9_readsOrder 5 = .ok (.iconst 1, 1) := by decide +kernel
theorem dX9_readsOrder_6 : decode cX9_readsOrder 6 = .ok (.if_icmp .ne 24, 3) := by decide +kernel
theorem dX9_readsOrder_9 : decode cX9_readsOrder 9 = .ok (.aload_n 0, 1) := by decide +kernel
theorem dX9_readsOrder_10 : decode cX9_readsOrder 10 = .ok (.getfield 363, 3) := by decide +kernel
theorem dX9_readsOrder_13 : decode cX9_readsOrder 13 = .ok (.i2l, 1) := by decide +kernel
theorem dX9_readsOrder_14 : decode cX9_readsOrder 14 = .ok (.ldc2_w 407, 3) := by decide +kernel
theorem dX9_readsOrder_17 : decode cX9_readsOrder 17 = .ok (.ldc2_w 409, 3) := by decide +kernel
theorem dX9_readsOrder_20 : decode cX9_readsOrder 20 = .ok (.invokestatic 92, 3) := by decide +kernel
theorem dX9_readsOrder_23 : decode cX9_readsOrder 23 = .ok (.ifCond .eq 7, 3) := by decide +kernel
theorem dX9_readsOrder_26 : decode cX9_readsOrder 26 = .ok (.iconst 1, 1) := by decide +kernel
theorem dX9_readsOrder_27 : decode cX9_readsOrder 27 = .ok (.goto 4, 3) := by decide +kernel
theorem dX9_readsOrder_30 : decode cX9_readsOrder 30 = .ok (.iconst 0, 1) := by decide +kernel
theorem dX9_readsOrder_31 : decode cX9_readsOrder 31 = .ok (.iconst 1, 1) := by decide +kernel
theorem dX9_readsOrder_32 : decode cX9_readsOrder 32 = .ok (.invokevirtual 393, 3) := by decide +kernel
theorem dX9_readsOrder_35 : decode cX9_readsOrder 35 = .ok (.aload_n 0, 1) := by decide +kernel
theorem dX9_readsOrder_36 : decode cX9_readsOrder 36 = .ok (.invokevirtual 386, 3) := by decide +kernel
theorem dX9_readsOrder_39 : decode cX9_readsOrder 39 = .ok (.ifCond .eq 16, 3) := by decide +kernel
theorem dX9_readsOrder_42 : decode cX9_readsOrder 42 = .ok (.aload_n 0, 1) := by decide +kernel
theorem dX9_readsOrder_43 : decode cX9_readsOrder 43 = .ok (.getfield 17, 3) := by decide +kernel
theorem dX9_readsOrder_46 : decode cX9_readsOrder 46 = .ok (.iconst 1, 1) := by decide +kernel
theorem dX9_readsOrder_47 : decode cX9_readsOrder 47 = .ok (.aload_n 0, 1) := by decide +kernel
theorem dX9_readsOrder_48 : decode cX9_readsOrder 48 = .ok (.getfield 363, 3) := by decide +kernel
theorem dX9_readsOrder_51 : decode cX9_readsOrder 51 = .ok (.bipush 8, 2) := by decide +kernel
theorem dX9_readsOrder_53 : decode cX9_readsOrder 53 = .ok (.isub, 1) := by decide +kernel
theorem dX9_readsOrder_54 : decode cX9_readsOrder 54 = .ok (.iastore, 1) := by decide +kernel
theorem dX9_readsOrder_55 : decode cX9_readsOrder 55 = .ok (.aload_n 0, 1) := by decide +kernel
theorem dX9_readsOrder_56 : decode cX9_readsOrder 56 = .ok (.invokevirtual 397, 3) := by decide +kernel
theorem dX9_readsOrder_59 : decode cX9_readsOrder 59 = .ok (.return_, 1) := by decide +kernel
theorem dX9_readsOnce_0 : decode cX9_readsOnce 0 = .ok (.aload_n 0, 1) := by decide +kernel
theorem dX9_readsOnce_1 : decode cX9_readsOnce 1 = .ok (.aload_n 0, 1) := by decide +kernel
theorem dX9_readsOnce_2 : decode cX9_readsOnce 2 = .ok (.getfield 317, 3) := by decide +kernel
theorem dX9_readsOnce_5 : decode cX9_readsOnce 5 = .ok (.iload_n 1, 1) := by decide +kernel
theorem dX9_readsOnce_6 : decode cX9_readsOnce 6 = .ok (.ishr, 1) := by decide +kernel
theorem dX9_readsOnce_7 : decode cX9_readsOnce 7 = .ok (.iconst 1, 1) := by decide +kernel
theorem dX9_readsOnce_8 : decode cX9_readsOnce 8 = .ok (.iand, 1) := by decide +kernel
theorem dX9_readsOnce_9 : decode cX9_readsOnce 9 = .ok (.ifCond .ne 7, 3) := by decide +kernel
theorem dX9_readsOnce_12 : decode cX9_readsOnce 12 = .ok (.iconst 1, 1) := by decide +kernel
theorem dX9_readsOnce_13 : decode cX9_readsOnce 13 = .ok (.goto 4, 3) := by decide +kernel
theorem dX9_readsOnce_16 : decode cX9_readsOnce 16 = .ok (.iconst 0, 1) := by decide +kernel
theorem dX9_readsOnce_17 : decode cX9_readsOnce 17 = .ok (.iconst 3, 1) := by decide +kernel
theorem dX9_readsOnce_18 : decode cX9_readsOnce 18 = .ok (.invokevirtual 393, 3) := by decide +kernel
theorem dX9_readsOnce_21 : decode cX9_readsOnce 21 = .ok (.aload_n 0, 1) := by decide +kernel
theorem dX9_readsOnce_22 : decode cX9_readsOnce 22 = .ok (.aload_n 0, 1) := by decide +kernel
theorem dX9_readsOnce_23 : decode cX9_readsOnce 23 = .ok (.getfield 317, 3) := by decide +kernel
theorem dX9_readsOnce_26 : decode cX9_readsOnce 26 = .ok (.iconst 1, 1) := by decide +kernel
theorem dX9_readsOnce_27 : decode cX9_readsOnce 27 = .ok (.iload_n 1, 1) := by decide +kernel
theorem dX9_readsOnce_28 : decode cX9_readsOnce 28 = .ok (.ishl, 1) := by decide +kernel
theorem dX9_readsOnce_29 : decode cX9_readsOnce 29 = .ok (.ior, 1) := by decide +kernel
theorem dX9_readsOnce_30 : decode cX9_readsOnce 30 = .ok (.putfield 317, 3) := by decide +kernel
theorem dX9_readsOnce_33 : decode cX9_readsOnce 33 = .ok (.aload_n 0, 1) := by decide +kernel
theorem dX9_readsOnce_34 : decode cX9_readsOnce 34 = .ok (.invokevirtual 397, 3) := by decide +kernel
theorem dX9_readsOnce_37 : decode cX9_readsOnce 37 = .ok (.aload_n 0, 1) := by decide +kernel
theorem dX9_readsOnce_38 : decode cX9_readsOnce 38 = .ok (.invokevirtual 386, 3) := by decide +kernel
theorem dX9_readsOnce_41 : decode cX9_readsOnce 41 = .ok (.ifCond .ne 4, 3) := by decide +kernel
theorem dX9_readsOnce_44 : decode cX9_readsOnce 44 = .ok (.return_, 1) := by decide +kernel
theorem dX9_readsOnce_45 : decode cX9_readsOnce 45 = .ok (.iload_n 1, 1) := by decide +kernel
theorem dX9_readsOnce_46 : decode cX9_readsOnce 46 = .ok (.iconst 5, 1) := by decide +kernel
theorem dX9_readsOnce_47 : decode cX9_readsOnce 47 = .ok (.if_icmp .ne 8, 3) := by decide +kernel
theorem dX9_readsOnce_50 : decode cX9_readsOnce 50 = .ok (.aload_n 0, 1) := by decide +kernel
theorem dX9_readsOnce_51 : decode cX9_readsOnce 51 = .ok (.invokevirtual 411, 3) := by decide +kernel
theorem dX9_readsOnce_54 : decode cX9_readsOnce 54 = .ok (.return_, 1) := by decide +kernel
theorem dX9_readsOnce_55 : decode cX9_readsOnce 55 = .ok (.iload_n 1, 1) := by decide +kernel
theorem dX9_readsOnce_56 : decode cX9_readsOnce 56 = .ok (.iconst 4, 1) := by decide +kernel
theorem dX9_readsOnce_57 : decode cX9_readsOnce 57 = .ok (.if_icmp .ne 7, 3) := by decide +kernel
theorem dX9_readsOnce_60 : decode cX9_readsOnce 60 = .ok (.iconst 0, 1) := by decide +kernel
theorem dX9_readsOnce_61 : decode cX9_readsOnce 61 = .ok (.goto 4, 3) := by decide +kernel
theorem dX9_readsOnce_64 : decode cX9_readsOnce 64 = .ok (.iconst 1, 1) := by decide +kernel
theorem dX9_readsOnce_65 : decode cX9_readsOnce 65 = .ok (.istore_n 2, 1) := by decide +kernel
theorem dX9_readsOnce_66 : decode cX9_readsOnce 66 = .ok (.iload_n 1, 1) := by decide +kernel
theorem dX9_readsOnce_67 : decode cX9_readsOnce 67 = .ok (.ifCond .ne 8, 3) := by decide +kernel
theorem dX9_readsOnce_70 : decode cX9_readsOnce 70 = .ok (.bipush 50, 2) := by decide +kernel
theorem dX9_readsOnce_72 : decode cX9_readsOnce 72 = .ok (.goto 25, 3) := by decide +kernel
theorem dX9_readsOnce_75 : decode cX9_readsOnce 75 = .ok (.iload_n 1, 1) := by decide +kernel
theorem dX9_readsOnce_76 : decode cX9_readsOnce 76 = .ok (.iconst 1, 1) := by decide +kernel
theorem dX9_readsOnce_77 : decode cX9_readsOnce 77 = .ok (.if_icmp .ne 8, 3) := by decide +kernel
theorem dX9_readsOnce_80 : decode cX9_readsOnce 80 = .ok (.bipush 100, 2) := by decide +kernel
theorem dX9_readsOnce_82 : decode cX9_readsOnce 82 = .ok (.goto 15, 3) := by decide +kernel
theorem dX9_readsOnce_85 : decode cX9_readsOnce 85 = .ok (.iload_n 1, 1) := by decide +kernel
theorem dX9_readsOnce_86 : decode cX9_readsOnce 86 = .ok (.iconst 3, 1) := by decide +kernel
theorem dX9_readsOnce_87 : decode cX9_readsOnce 87 = .ok (.if_icmp .ne 8, 3) := by decide +kernel
theorem dX9_readsOnce_90 : decode cX9_readsOnce 90 = .ok (.bipush 20, 2) := by decide +kernel
theorem dX9_readsOnce_92 : decode cX9_readsOnce 92 = .ok (.goto 5, 3) := by decide +kernel
theorem dX9_readsOnce_95 : decode cX9_readsOnce 95 = .ok (.bipush 99, 2) := by decide +kernel
theorem dX9_readsOnce_97 : decode cX9_readsOnce 97 = .ok (.istore_n 3, 1) := by decide +kernel
theorem dX9_readsOnce_98 : decode cX9_readsOnce 98 = .ok (.aload_n 0, 1) := by decide +kernel
theorem dX9_readsOnce_99 : decode cX9_readsOnce 99 = .ok (.getfield 49, 3) := by decide +kernel
theorem dX9_readsOnce_102 : decode cX9_readsOnce 102 = .ok (.iload_n 1, 1) := by decide +kernel
theorem dX9_readsOnce_103 : decode cX9_readsOnce 103 = .ok (.aload_n 0, 1) := by decide +kernel
theorem dX9_readsOnce_104 : decode cX9_readsOnce 104 = .ok (.iload_n 2, 1) := by decide +kernel
theorem dX9_readsOnce_105 : decode cX9_readsOnce 105 = .ok (.iload_n 3, 1) := by decide +kernel
theorem dX9_readsOnce_106 : decode cX9_readsOnce 106 = .ok (.invokevirtual 414, 3) := by decide +kernel
theorem dX9_readsOnce_109 : decode cX9_readsOnce 109 = .ok (.iastore, 1) := by decide +kernel
theorem dX9_readsOnce_110 : decode cX9_readsOnce 110 = .ok (.return_, 1) := by decide +kernel
theorem dX9_readsLoan_0 : decode cX9_readsLoan 0 = .ok (.aload_n 0, 1) := by decide +kernel
theorem dX9_readsLoan_1 : decode cX9_readsLoan 1 = .ok (.aload_n 0, 1) := by decide +kernel
theorem dX9_readsLoan_2 : decode cX9_readsLoan 2 = .ok (.getfield 17, 3) := by decide +kernel
theorem dX9_readsLoan_5 : decode cX9_readsLoan 5 = .ok (.bipush 6, 2) := by decide +kernel
theorem dX9_readsLoan_7 : decode cX9_readsLoan 7 = .ok (.iaload, 1) := by decide +kernel
theorem dX9_readsLoan_8 : decode cX9_readsLoan 8 = .ok (.bipush 20, 2) := by decide +kernel
theorem dX9_readsLoan_10 : decode cX9_readsLoan 10 = .ok (.if_icmp .ge 7, 3) := by decide +kernel
theorem dX9_readsLoan_13 : decode cX9_readsLoan 13 = .ok (.iconst 1, 1) := by decide +kernel
theorem dX9_readsLoan_14 : decode cX9_readsLoan 14 = .ok (.goto 4, 3) := by decide +kernel
theorem dX9_readsLoan_17 : decode cX9_readsLoan 17 = .ok (.iconst 0, 1) := by decide +kernel
theorem dX9_readsLoan_18 : decode cX9_readsLoan 18 = .ok (.iconst 4, 1) := by decide +kernel
theorem dX9_readsLoan_19 : decode cX9_readsLoan 19 = .ok (.invokevirtual 393, 3) := by decide +kernel
theorem dX9_readsLoan_22 : decode cX9_readsLoan 22 = .ok (.aload_n 0, 1) := by decide +kernel
theorem dX9_readsLoan_23 : decode cX9_readsLoan 23 = .ok (.invokevirtual 397, 3) := by decide +kernel
theorem dX9_readsLoan_26 : decode cX9_readsLoan 26 = .ok (.aload_n 0, 1) := by decide +kernel
theorem dX9_readsLoan_27 : decode cX9_readsLoan 27 = .ok (.invokevirtual 417, 3) := by decide +kernel
theorem dX9_readsLoan_30 : decode cX9_readsLoan 30 = .ok (.istore_n 1, 1) := by decide +kernel
theorem dX9_readsLoan_31 : decode cX9_readsLoan 31 = .ok (.aload_n 0, 1) := by decide +kernel
theorem dX9_readsLoan_32 : decode cX9_readsLoan 32 = .ok (.iconst 1, 1) := by decide +kernel
theorem dX9_readsLoan_33 : decode cX9_readsLoan 33 = .ok (.aload_n 0, 1) := by decide +kernel
theorem dX9_readsLoan_34 : decode cX9_readsLoan 34 = .ok (.getfield 320, 3) := by decide +kernel
theorem dX9_readsLoan_37 : decode cX9_readsLoan 37 = .ok (.invokevirtual 414, 3) := by decide +kernel
theorem dX9_readsLoan_40 : decode cX9_readsLoan 40 = .ok (.istore_n 2, 1) := by decide +kernel
theorem dX9_readsLoan_41 : decode cX9_readsLoan 41 = .ok (.aload_n 0, 1) := by decide +kernel
theorem dX9_readsLoan_42 : decode cX9_readsLoan 42 = .ok (.iconst 1, 1) := by decide +kernel
theorem dX9_readsLoan_43 : decode cX9_readsLoan 43 = .ok (.bipush 99, 2) := by decide +kernel
theorem dX9_readsLoan_45 : decode cX9_readsLoan 45 = .ok (.invokevirtual 414, 3) := by decide +kernel
theorem dX9_readsLoan_48 : decode cX9_readsLoan 48 = .ok (.istore_n 3, 1) := by decide +kernel
theorem dX9_readsLoan_49 : decode cX9_readsLoan 49 = .ok (.aload_n 0, 1) := by decide +kernel
theorem dX9_readsLoan_50 : decode cX9_readsLoan 50 = .ok (.invokevirtual 386, 3) := by decide +kernel
theorem dX9_readsLoan_53 : decode cX9_readsLoan 53 = .ok (.ifCond .ne 4, 3) := by decide +kernel
theorem dX9_readsLoan_56 : decode cX9_readsLoan 56 = .ok (.return_, 1) := by decide +kernel
theorem dX9_readsLoan_57 : decode cX9_readsLoan 57 = .ok (.aload_n 0, 1) := by decide +kernel
theorem dX9_readsLoan_58 : decode cX9_readsLoan 58 = .ok (.getfield 17, 3) := by decide +kernel
theorem dX9_readsLoan_61 : decode cX9_readsLoan 61 = .ok (.iload_n 1, 1) := by decide +kernel
theorem dX9_readsLoan_62 : decode cX9_readsLoan 62 = .ok (.iload_n 2, 1) := by decide +kernel
theorem dX9_readsLoan_63 : decode cX9_readsLoan 63 = .ok (.iload_n 3, 1) := by decide +kernel
theorem dX9_readsLoan_64 : decode cX9_readsLoan 64 = .ok (.iconst (-1), 1) := by decide +kernel
theorem dX9_readsLoan_65 : decode cX9_readsLoan 65 = .ok (.invokestatic 159, 3) := by decide +kernel
theorem dX9_readsLoan_68 : decode cX9_readsLoan 68 = .ok (.aload_n 0, 1) := by decide +kernel
theorem dX9_readsLoan_69 : decode cX9_readsLoan 69 = .ok (.aload_n 0, 1) := by decide +kernel
theorem dX9_readsLoan_70 : decode cX9_readsLoan 70 = .ok (.getfield 320, 3) := by decide +kernel
theorem dX9_readsLoan_73 : decode cX9_readsLoan 73 = .ok (.iload_n 2, 1) := by decide +kernel
theorem dX9_readsLoan_74 : decode cX9_readsLoan 74 = .ok (.isub, 1) := by decide +kernel
theorem dX9_readsLoan_75 : decode cX9_readsLoan 75 = .ok (.putfield 320, 3) := by decide +kernel
theorem dX9_readsLoan_78 : decode cX9_readsLoan 78 = .ok (.return_, 1) := by decide +kernel
theorem dX9_readsAsk_0 : decode cX9_readsAsk 0 = .ok (.aload_n 0, 1) := by decide +kernel
theorem dX9_readsAsk_1 : decode cX9_readsAsk 1 = .ok (.aload_n 0, 1) := by decide +kernel
theorem dX9_readsAsk_2 : decode cX9_readsAsk 2 = .ok (.getfield 17, 3) := by decide +kernel
theorem dX9_readsAsk_5 : decode cX9_readsAsk 5 = .ok (.bipush 7, 2) := by decide +kernel
theorem dX9_readsAsk_7 : decode cX9_readsAsk 7 = .ok (.iaload, 1) := by decide +kernel
theorem dX9_readsAsk_8 : decode cX9_readsAsk 8 = .ok (.bipush 60, 2) := by decide +kernel
theorem dX9_readsAsk_10 : decode cX9_readsAsk 10 = .ok (.if_icmp .ge 7, 3) := by decide +kernel
theorem dX9_readsAsk_13 : decode cX9_readsAsk 13 = .ok (.iconst 1, 1) := by decide +kernel
theorem dX9_readsAsk_14 : decode cX9_readsAsk 14 = .ok (.goto 4, 3) := by decide +kernel
theorem dX9_readsAsk_17 : decode cX9_readsAsk 17 = .ok (.iconst 0, 1) := by decide +kernel
theorem dX9_readsAsk_18 : decode cX9_readsAsk 18 = .ok (.iconst 4, 1) := by decide +kernel
theorem dX9_readsAsk_19 : decode cX9_readsAsk 19 = .ok (.invokevirtual 393, 3) := by decide +kernel
theorem dX9_readsAsk_22 : decode cX9_readsAsk 22 = .ok (.aload_n 0, 1) := by decide +kernel
theorem dX9_readsAsk_23 : decode cX9_readsAsk 23 = .ok (.invokevirtual 397, 3) := by decide +kernel
theorem dX9_readsAsk_26 : decode cX9_readsAsk 26 = .ok (.aload_n 0, 1) := by decide +kernel
theorem dX9_readsAsk_27 : decode cX9_readsAsk 27 = .ok (.invokevirtual 417, 3) := by decide +kernel
theorem dX9_readsAsk_30 : decode cX9_readsAsk 30 = .ok (.istore_n 1, 1) := by decide +kernel
theorem dX9_readsAsk_31 : decode cX9_readsAsk 31 = .ok (.aload_n 0, 1) := by decide +kernel
theorem dX9_readsAsk_32 : decode cX9_readsAsk 32 = .ok (.iconst 1, 1) := by decide +kernel
theorem dX9_readsAsk_33 : decode cX9_readsAsk 33 = .ok (.aload_n 0, 1) := by decide +kernel
theorem dX9_readsAsk_34 : decode cX9_readsAsk 34 = .ok (.getfield 61, 3) := by decide +kernel
theorem dX9_readsAsk_37 : decode cX9_readsAsk 37 = .ok (.invokevirtual 414, 3) := by decide +kernel
theorem dX9_readsAsk_40 : decode cX9_readsAsk 40 = .ok (.istore_n 2, 1) := by decide +kernel
theorem dX9_readsAsk_41 : decode cX9_readsAsk 41 = .ok (.aload_n 0, 1) := by decide +kernel
theorem dX9_readsAsk_42 : decode cX9_readsAsk 42 = .ok (.iconst 1, 1) := by decide +kernel
theorem dX9_readsAsk_43 : decode cX9_readsAsk 43 = .ok (.bipush 99, 2) := by decide +kernel
theorem dX9_readsAsk_45 : decode cX9_readsAsk 45 = .ok (.invokevirtual 414, 3) := by decide +kernel
theorem dX9_readsAsk_48 : decode cX9_readsAsk 48 = .ok (.istore_n 3, 1) := by decide +kernel
theorem dX9_readsAsk_49 : decode cX9_readsAsk 49 = .ok (.aload_n 0, 1) := by decide +kernel
theorem dX9_readsAsk_50 : decode cX9_readsAsk 50 = .ok (.invokevirtual 386, 3) := by decide +kernel
theorem dX9_readsAsk_53 : decode cX9_readsAsk 53 = .ok (.ifCond .ne 4, 3) := by decide +kernel
theorem dX9_readsAsk_56 : decode cX9_readsAsk 56 = .ok (.return_, 1) := by decide +kernel
theorem dX9_readsAsk_57 : decode cX9_readsAsk 57 = .ok (.aload_n 0, 1) := by decide +kernel
theorem dX9_readsAsk_58 : decode cX9_readsAsk 58 = .ok (.getfield 17, 3) := by decide +kernel
theorem dX9_readsAsk_61 : decode cX9_readsAsk 61 = .ok (.iload_n 1, 1) := by decide +kernel
theorem dX9_readsAsk_62 : decode cX9_readsAsk 62 = .ok (.iload_n 2, 1) := by decide +kernel
theorem dX9_readsAsk_63 : decode cX9_readsAsk 63 = .ok (.iload_n 3, 1) := by decide +kernel
theorem dX9_readsAsk_64 : decode cX9_readsAsk 64 = .ok (.invokestatic 228, 3) := by decide +kernel
theorem dX9_readsAsk_67 : decode cX9_readsAsk 67 = .ok (.istore 4, 2) := by decide +kernel
theorem dX9_readsAsk_69 : decode cX9_readsAsk 69 = .ok (.return_, 1) := by decide +kernel
theorem dX9_statement_0 : decode cX9_statement 0 = .ok (.aload_n 0, 1) := by decide +kernel
theorem dX9_statement_1 : decode cX9_statement 1 = .ok (.iconst 1, 1) := by decide +kernel
theorem dX9_statement_2 : decode cX9_statement 2 = .ok (.invokevirtual 420, 3) := by decide +kernel
theorem dX9_statement_5 : decode cX9_statement 5 = .ok (.ifCond .eq 10, 3) := by decide +kernel
theorem dX9_statement_8 : decode cX9_statement 8 = .ok (.aload_n 0, 1) := by decide +kernel
theorem dX9_statement_9 : decode cX9_statement 9 = .ok (.invokevirtual 423, 3) := by decide +kernel
theorem dX9_statement_12 : decode cX9_statement 12 = .ok (.goto 79, 3) := by decide +kernel
theorem dX9_statement_15 : decode cX9_statement 15 = .ok (.aload_n 0, 1) := by decide +kernel
theorem dX9_statement_16 : decode cX9_statement 16 = .ok (.bipush 11, 2) := by decide +kernel
theorem dX9_statement_18 : decode cX9_statement 18 = .ok (.invokevirtual 420, 3) := by decide +kernel
theorem dX9_statement_21 : decode cX9_statement 21 = .ok (.ifCond .eq 10, 3) := by decide +kernel
theorem dX9_statement_24 : decode cX9_statement 24 = .ok (.aload_n 0, 1) := by decide +kernel
theorem dX9_statement_25 : decode cX9_statement 25 = .ok (.invokevirtual 426, 3) := by decide +kernel
theorem dX9_statement_28 : decode cX9_statement 28 = .ok (.goto 63, 3) := by decide +kernel
theorem dX9_statement_31 : decode cX9_statement 31 = .ok (.aload_n 0, 1) := by decide +kernel
theorem dX9_statement_32 : decode cX9_statement 32 = .ok (.bipush 12, 2) := by decide +kernel
theorem dX9_statement_34 : decode cX9_statement 34 = .ok (.invokevirtual 420, 3) := by decide +kernel
theorem dX9_statement_37 : decode cX9_statement 37 = .ok (.ifCond .eq 10, 3) := by decide +kernel
theorem dX9_statement_40 : decode cX9_statement 40 = .ok (.aload_n 0, 1) := by decide +kernel
theorem dX9_statement_41 : decode cX9_statement 41 = .ok (.invokevirtual 429, 3) := by decide +kernel
theorem dX9_statement_44 : decode cX9_statement 44 = .ok (.goto 47, 3) := by decide +kernel
theorem dX9_statement_47 : decode cX9_statement 47 = .ok (.aload_n 0, 1) := by decide +kernel
theorem dX9_statement_48 : decode cX9_statement 48 = .ok (.getfield 346, 3) := by decide +kernel
theorem dX9_statement_51 : decode cX9_statement 51 = .ok (.iconst 1, 1) := by decide +kernel
theorem dX9_statement_52 : decode cX9_statement 52 = .ok (.if_icmp .ne 33, 3) := by decide +kernel
theorem dX9_statement_55 : decode cX9_statement 55 = .ok (.aload_n 0, 1) := by decide +kernel
theorem dX9_statement_56 : decode cX9_statement 56 = .ok (.getfield 363, 3) := by decide +kernel
theorem dX9_statement_59 : decode cX9_statement 59 = .ok (.i2l, 1) := by decide +kernel
theorem dX9_statement_60 : decode cX9_statement 60 = .ok (.ldc2_w 269, 3) := by decide +kernel
theorem dX9_statement_63 : decode cX9_statement 63 = .ok (.ldc2_w 293, 3) := by decide +kernel
theorem dX9_statement_66 : decode cX9_statement 66 = .ok (.invokestatic 92, 3) := by decide +kernel
theorem dX9_statement_69 : decode cX9_statement 69 = .ok (.ifCond .eq 16, 3) := by decide +kernel
theorem dX9_statement_72 : decode cX9_statement 72 = .ok (.aload_n 0, 1) := by decide +kernel
theorem dX9_statement_73 : decode cX9_statement 73 = .ok (.aload_n 0, 1) := by decide +kernel
theorem dX9_statement_74 : decode cX9_statement 74 = .ok (.getfield 363, 3) := by decide +kernel
theorem dX9_statement_77 : decode cX9_statement 77 = .ok (.iconst 2, 1) := by decide +kernel
theorem dX9_statement_78 : decode cX9_statement 78 = .ok (.isub, 1) := by decide +kernel
theorem dX9_statement_79 : decode cX9_statement 79 = .ok (.invokevirtual 432, 3) := by decide +kernel
theorem dX9_statement_82 : decode cX9_statement 82 = .ok (.goto 9, 3) := by decide +kernel
theorem dX9_statement_85 : decode cX9_statement 85 = .ok (.aload_n 0, 1) := by decide +kernel
theorem dX9_statement_86 : decode cX9_statement 86 = .ok (.iconst 0, 1) := by decide +kernel
theorem dX9_statement_87 : decode cX9_statement 87 = .ok (.iconst 1, 1) := by decide +kernel
theorem dX9_statement_88 : decode cX9_statement 88 = .ok (.invokevirtual 393, 3) := by decide +kernel
theorem dX9_statement_91 : decode cX9_statement 91 = .ok (.aload_n 0, 1) := by decide +kernel
theorem dX9_statement_92 : decode cX9_statement 92 = .ok (.aload_n 0, 1) := by decide +kernel
theorem dX9_statement_93 : decode cX9_statement 93 = .ok (.getfield 346, 3) := by decide +kernel
theorem dX9_statement_96 : decode cX9_statement 96 = .ok (.iconst 3, 1) := by decide +kernel
theorem dX9_statement_97 : decode cX9_statement 97 = .ok (.if_icmp .ne 7, 3) := by decide +kernel
theorem dX9_statement_100 : decode cX9_statement 100 = .ok (.iconst 1, 1) := by decide +kernel
theorem dX9_statement_101 : decode cX9_statement 101 = .ok (.goto 4, 3) := by decide +kernel
theorem dX9_statement_104 : decode cX9_statement 104 = .ok (.iconst 0, 1) := by decide +kernel
theorem dX9_statement_105 : decode cX9_statement 105 = .ok (.iconst 1, 1) := by decide +kernel
theorem dX9_statement_106 : decode cX9_statement 106 = .ok (.invokevirtual 393, 3) := by decide +kernel
theorem dX9_statement_109 : decode cX9_statement 109 = .ok (.aload_n 0, 1) := by decide +kernel
theorem dX9_statement_110 : decode cX9_statement 110 = .ok (.invokevirtual 397, 3) := by decide +kernel
theorem dX9_statement_113 : decode cX9_statement 113 = .ok (.return_, 1) := by decide +kernel
theorem dX9_parse_0 : decode cX9_parse 0 = .ok (.aload_n 0, 1) := by decide +kernel
theorem dX9_parse_1 : decode cX9_parse 1 = .ok (.iconst 0, 1) := by decide +kernel
theorem dX9_parse_2 : decode cX9_parse 2 = .ok (.putfield 67, 3) := by decide +kernel
theorem dX9_parse_5 : decode cX9_parse 5 = .ok (.aload_n 0, 1) := by decide +kernel
theorem dX9_parse_6 : decode cX9_parse 6 = .ok (.iconst 0, 1) := by decide +kernel
theorem dX9_parse_7 : decode cX9_parse 7 = .ok (.putfield 383, 3) := by decide +kernel
theorem dX9_parse_10 : decode cX9_parse 10 = .ok (.aload_n 0, 1) := by decide +kernel
theorem dX9_parse_11 : decode cX9_parse 11 = .ok (.iconst (-1), 1) := by decide +kernel
theorem dX9_parse_12 : decode cX9_parse 12 = .ok (.putfield 46, 3) := by decide +kernel
theorem dX9_parse_15 : decode cX9_parse 15 = .ok (.aload_n 0, 1) := by decide +kernel
theorem dX9_parse_16 : decode cX9_parse 16 = .ok (.invokevirtual 58, 3) := by decide +kernel
theorem dX9_parse_19 : decode cX9_parse 19 = .ok (.aload_n 0, 1) := by decide +kernel
theorem dX9_parse_20 : decode cX9_parse 20 = .ok (.aload_n 0, 1) := by decide +kernel
theorem dX9_parse_21 : decode cX9_parse 21 = .ok (.getfield 327, 3) := by decide +kernel
theorem dX9_parse_24 : decode cX9_parse 24 = .ok (.putfield 330, 3) := by decide +kernel
theorem dX9_parse_27 : decode cX9_parse 27 = .ok (.aload_n 0, 1) := by decide +kernel
theorem dX9_parse_28 : decode cX9_parse 28 = .ok (.iconst 0, 1) := by decide +kernel
theorem dX9_parse_29 : decode cX9_parse 29 = .ok (.putfield 327, 3) := by decide +kernel
theorem dX9_parse_32 : decode cX9_parse 32 = .ok (.aload_n 0, 1) := by decide +kernel
theorem dX9_parse_33 : decode cX9_parse 33 = .ok (.iconst 0, 1) := by decide +kernel
theorem dX9_parse_34 : decode cX9_parse 34 = .ok (.putfield 340, 3) := by decide +kernel
theorem dX9_parse_37 : decode cX9_parse 37 = .ok (.aload_n 0, 1) := by decide +kernel
theorem dX9_parse_38 : decode cX9_parse 38 = .ok (.invokevirtual 390, 3) := by decide +kernel
theorem dX9_parse_41 : decode cX9_parse 41 = .ok (.aload_n 0, 1) := by decide +kernel
theorem dX9_parse_42 : decode cX9_parse 42 = .ok (.aload_n 0, 1) := by decide +kernel
theorem dX9_parse_43 : decode cX9_parse 43 = .ok (.iconst 0, 1) := by decide +kernel
theorem dX9_parse_44 : decode cX9_parse 44 = .ok (.invokevirtual 420, 3) := by decide +kernel
theorem dX9_parse_47 : decode cX9_parse 47 = .ok (.iconst 1, 1) := by decide +kernel
theorem dX9_parse_48 : decode cX9_parse 48 = .ok (.invokevirtual 393, 3) := by decide +kernel
theorem dX9_parse_51 : decode cX9_parse 51 = .ok (.aload_n 0, 1) := by decide +kernel
theorem dX9_parse_52 : decode cX9_parse 52 = .ok (.invokevirtual 397, 3) := by decide +kernel
theorem dX9_parse_55 : decode cX9_parse 55 = .ok (.aload_n 0, 1) := by decide +kernel
theorem dX9_parse_56 : decode cX9_parse 56 = .ok (.aload_n 0, 1) := by decide +kernel
theorem dX9_parse_57 : decode cX9_parse 57 = .ok (.iconst 4, 1) := by decide +kernel
theorem dX9_parse_58 : decode cX9_parse 58 = .ok (.bipush 64, 2) := by decide +kernel
theorem dX9_parse_60 : decode cX9_parse 60 = .ok (.invokevirtual 414, 3) := by decide +kernel
theorem dX9_parse_63 : decode cX9_parse 63 = .ok (.putfield 61, 3) := by decide +kernel
theorem dX9_parse_66 : decode cX9_parse 66 = .ok (.aload_n 0, 1) := by decide +kernel
theorem dX9_parse_67 : decode cX9_parse 67 = .ok (.aload_n 0, 1) := by decide +kernel
theorem dX9_parse_68 : decode cX9_parse 68 = .ok (.getfield 61, 3) := by decide +kernel
theorem dX9_parse_71 : decode cX9_parse 71 = .ok (.putfield 320, 3) := by decide +kernel
theorem dX9_parse_74 : decode cX9_parse 74 = .ok (.aload_n 0, 1) := by decide +kernel
theorem dX9_parse_75 : decode cX9_parse 75 = .ok (.aload_n 0, 1) := by decide +kernel
theorem dX9_parse_76 : decode cX9_parse 76 = .ok (.getfield 346, 3) := by decide +kernel
theorem dX9_parse_79 : decode cX9_parse 79 = .ok (.iconst 3, 1) := by decide +kernel
theorem dX9_parse_80 : decode cX9_parse 80 = .ok (.if_icmp .ne 7, 3) := by decide +kernel
theorem dX9_parse_83 : decode cX9_parse 83 = .ok (.iconst 1, 1) := by decide +kernel
theorem dX9_parse_84 : decode cX9_parse 84 = .ok (.goto 4, 3) := by decide +kernel
theorem dX9_parse_87 : decode cX9_parse 87 = .ok (.iconst 0, 1) := by decide +kernel
theorem dX9_parse_88 : decode cX9_parse 88 = .ok (.iconst 1, 1) := by decide +kernel
theorem dX9_parse_89 : decode cX9_parse 89 = .ok (.invokevirtual 393, 3) := by decide +kernel
theorem dX9_parse_92 : decode cX9_parse 92 = .ok (.aload_n 0, 1) := by decide +kernel
theorem dX9_parse_93 : decode cX9_parse 93 = .ok (.invokevirtual 397, 3) := by decide +kernel
theorem dX9_parse_96 : decode cX9_parse 96 = .ok (.aload_n 0, 1) := by decide +kernel
theorem dX9_parse_97 : decode cX9_parse 97 = .ok (.invokevirtual 386, 3) := by decide +kernel
theorem dX9_parse_100 : decode cX9_parse 100 = .ok (.ifCond .eq 17, 3) := by decide +kernel
theorem dX9_parse_103 : decode cX9_parse 103 = .ok (.aload_n 0, 1) := by decide +kernel
theorem dX9_parse_104 : decode cX9_parse 104 = .ok (.getfield 346, 3) := by decide +kernel
theorem dX9_parse_107 : decode cX9_parse 107 = .ok (.ifCond .eq 10, 3) := by decide +kernel
theorem dX9_parse_110 : decode cX9_parse 110 = .ok (.aload_n 0, 1) := by decide +kernel
theorem dX9_parse_111 : decode cX9_parse 111 = .ok (.invokevirtual 435, 3) := by decide +kernel
theorem dX9_parse_114 : decode cX9_parse 114 = .ok (.goto (-18), 3) := by decide +kernel
theorem dX9_parse_117 : decode cX9_parse 117 = .ok (.aload_n 0, 1) := by decide +kernel
theorem dX9_parse_118 : decode cX9_parse 118 = .ok (.invokevirtual 386, 3) := by decide +kernel
theorem dX9_parse_121 : decode cX9_parse 121 = .ok (.ifCond .ne 5, 3) := by decide +kernel
theorem dX9_parse_124 : decode cX9_parse 124 = .ok (.iconst (-1), 1) := by decide +kernel
theorem dX9_parse_125 : decode cX9_parse 125 = .ok (.ireturn, 1) := by decide +kernel
theorem dX9_parse_126 : decode cX9_parse 126 = .ok (.aload_n 0, 1) := by decide +kernel
theorem dX9_parse_127 : decode cX9_parse 127 = .ok (.invokevirtual 64, 3) := by decide +kernel
theorem dX9_parse_130 : decode cX9_parse 130 = .ok (.aload_n 0, 1) := by decide +kernel
theorem dX9_parse_131 : decode cX9_parse 131 = .ok (.getfield 89, 3) := by decide +kernel
theorem dX9_parse_134 : decode cX9_parse 134 = .ok (.ireturn, 1) := by decide +kernel
def s_X9_wordHere_102 (n : Nat) (th_0 : OS) (rc_4 : (Int32) → (Int32) → Option (Int32)) (rc_102 : (Int32) → (Int32) → Option (Int32)) (w1_j102 : Int32) (w2_j102 : Int32) : Option (Int32) :=
  gI 15 (14 : Int32) (gI (sLenL.getD (14 : Int32).toNatClampNeg 0) w2_j102 (Let (sChr (14 : Int32) w2_j102) (fun x_4 : Int32 =>
  if x_4 = (32 : Int32) then (
  Let (w2_j102 + (1 : Int32)) (fun v2_5 : Int32 =>
  Let (w1_j102 + (1 : Int32)) (fun v1_6 : Int32 =>
  rc_4 v1_6 v2_5))) else (
  Let (w2_j102 + (1 : Int32)) (fun v2_7 : Int32 =>
  rc_102 w1_j102 v2_7)))))
def l_X9_wordHere_102 (n : Nat) (th_0 : OS) (rc_4 : (Int32) → (Int32) → Option (Int32)) : Nat → (Int32) → (Int32) → Option (Int32)
  | 0 => fun _ _ => none
  | N + 1 => s_X9_wordHere_102 n th_0 rc_4 (l_X9_wordHere_102 n th_0 rc_4 N)
def j_X9_wordHere_73 (n : Nat) (th_0 : OS) (rc_4 : (Int32) → (Int32) → Option (Int32)) (w1_j73 : Int32) (w2_j73 : Int32) (w3_j73 : Int32) : Option (Int32) :=
  gI 15 (14 : Int32) (gI (sLenL.getD (14 : Int32).toNatClampNeg 0) (w2_j73 + w3_j73) (Let (sChr (14 : Int32) (w2_j73 + w3_j73)) (fun x_3 : Int32 =>
  if x_3 = (32 : Int32) then (
  if ((th_0.1 26) + w3_j73) = (th_0.1 25) then (
  some w1_j73) else (
  l_X9_wordHere_102 n th_0 rc_4 n w1_j73 w2_j73)) else (
  l_X9_wordHere_102 n th_0 rc_4 n w1_j73 w2_j73))))
def s_X9_wordHere_16 (n : Nat) (th_0 : OS) (w1_j16 : Int32) (w2_j16 : Int32) (rc_4 : (Int32) → (Int32) → Option (Int32)) (rc_16 : (Int32) → Option (Int32)) (w3_j16 : Int32) : Option (Int32) :=
  gI 15 (14 : Int32) (gI (sLenL.getD (14 : Int32).toNatClampNeg 0) (w2_j16 + w3_j16) (Let (sChr (14 : Int32) (w2_j16 + w3_j16)) (fun x_2 : Int32 =>
  if x_2 = (32 : Int32) then (
  j_X9_wordHere_73 n th_0 rc_4 w1_j16 w2_j16 w3_j16) else (
  if (th_0.1 25) ≤ ((th_0.1 26) + w3_j16) then (
  j_X9_wordHere_73 n th_0 rc_4 w1_j16 w2_j16 w3_j16) else (
  gI 600 ((th_0.1 26) + w3_j16) (Let ((th_0.2.1 22) ((th_0.1 26) + w3_j16).toNatClampNeg) (fun x_8 : Int32 =>
  gI 15 (14 : Int32) (gI (sLenL.getD (14 : Int32).toNatClampNeg 0) (w2_j16 + w3_j16) (Let (sChr (14 : Int32) (w2_j16 + w3_j16)) (fun x_9 : Int32 =>
  if x_8 = x_9 then (
  Let (w3_j16 + (1 : Int32)) (fun v3_10 : Int32 =>
  rc_16 v3_10)) else (
  j_X9_wordHere_73 n th_0 rc_4 w1_j16 w2_j16 w3_j16)))))))))))
def l_X9_wordHere_16 (n : Nat) (th_0 : OS) (w1_j16 : Int32) (w2_j16 : Int32) (rc_4 : (Int32) → (Int32) → Option (Int32)) : Nat → (Int32) → Option (Int32)
  | 0 => fun _ => none
  | N + 1 => s_X9_wordHere_16 n th_0 w1_j16 w2_j16 rc_4 (l_X9_wordHere_16 n th_0 w1_j16 w2_j16 rc_4 N)
def s_X9_wordHere_4 (n : Nat) (th_0 : OS) (rc_4 : (Int32) → (Int32) → Option (Int32)) (w1_j4 : Int32) (w2_j4 : Int32) : Option (Int32) :=
  gI 15 (14 : Int32) (Let (sLen (14 : Int32)) (fun x_1 : Int32 =>
  if x_1 ≤ w2_j4 then (
  some (-1 : Int32)) else (
  l_X9_wordHere_16 n th_0 w1_j4 w2_j4 rc_4 n (0 : Int32))))
def l_X9_wordHere_4 (n : Nat) (th_0 : OS) : Nat → (Int32) → (Int32) → Option (Int32)
  | 0 => fun _ _ => none
  | N + 1 => s_X9_wordHere_4 n th_0 (l_X9_wordHere_4 n th_0 N)
def f_X9_wordHere (n : Nat) (th_0 : OS) : Option (Int32) :=
  l_X9_wordHere_4 n th_0 n (0 : Int32) (0 : Int32)
set_option maxHeartbeats 4000000 in
set_option maxRecDepth 100000 in
theorem c_X9_wordHere (n : Nat) (l : Launch) (k : KT) (hE : EH k) (a_th : Nat → Nat) (th_0 : OS) (res : (Int32)) (hf : f_X9_wordHere n th_0 = some res) : CG l k yX9_wordHere cX9_wordHere 4 (some .int) 4 0 0 90 [.ref (a_th 0)] (wModel k a_th th_0) (Qi k (fun u : Unit => wModel k a_th th_0) (fun (r : Int32) (u : Unit) => res = r)) := by
  refine CG.ofI (by decide) (Nat.le_of_ble_eq_true rfl) (fun p e s m args below meth c A Q E hnm hW hA hret ls hl => ?_)
  have hl : lv_has ls 4 [(0, .ref (a_th 0))] := hl
  unfold f_X9_wordHere at hf
  refine lv_iconst (v := (0 : Int32)) E.hx E.hb dX9_wordHere_0 ic_0 ?_
  refine k_istore_n (lv' := [(1, .int (0 : Int32)), (0, .ref (a_th 0))]) E rfl hl dX9_wordHere_1 rfl (by decide) rfl (fun ls hl => ?_)
  refine lv_iconst (v := (0 : Int32)) E.hx E.hb dX9_wordHere_2 ic_0 ?_
  refine k_istore_n (lv' := [(2, .int (0 : Int32)), (1, .int (0 : Int32)), (0, .ref (a_th 0))]) E rfl hl dX9_wordHere_3 rfl (by decide) rfl (fun ls hl => ?_)
  have L_4 : ∀ (N_4 : Nat) (w1_j4 : Int32) (w2_j4 : Int32) (H : Heap) (locs : List Loc) (ls : Array Slot) (hW : WD k A s.heap (wModel k a_th th_0) H locs) (hl : lv_has ls 4 [(0, .ref (a_th 0)), (1, .int w1_j4), (2, .int w2_j4)]) (hf : l_X9_wordHere_4 n th_0 N_4 w1_j4 w2_j4 = some res), W p l e { frames := 4, cells := 0, slots := 0, locals := 90 } s m args below meth c H locs 0 0 Q (F0 m 4 ls []) := by
    intro N_4
    induction N_4 with
    | zero => intro w1_j4 w2_j4 H locs ls hW hl hf; exact o0 hf
    | succ N_4 ih_4 =>
      intro w1_j4 w2_j4 H locs ls hW hl hf
      have hf : s_X9_wordHere_4 n th_0 (l_X9_wordHere_4 n th_0 N_4) w1_j4 w2_j4 = some res := hf
      unfold s_X9_wordHere_4 at hf
      refine k_iload_n E hl 2 dX9_wordHere_4 rfl ?_
      refine k_words hE E hW rfl dX9_wordHere_5 ?_
      obtain ⟨hin, hf⟩ := oI hf
      obtain ⟨x_1, ex_1, hf⟩ := oL hf
      refine k_callO (As := []) (c_slen l k hE (14 : Int32) hin) E vl_X9_375 (strF hE E hin).1 dX9_wordHere_8 rfl hW hA hl rfl ⟨by decide, by decide⟩ ⟨by decide, by decide⟩ (Nat.le_of_ble_eq_true rfl) (fun r H locs hp hW => ?_)
      subst hp
      refine k_topi ex_1 ?_
      refine lv_icmp_ge (tgt := 132) E.hx E.hb dX9_wordHere_11 (by decide) (fun hc => ?_) (fun hc => ?_)
      · have hf := oT hc hf
        refine lv_iconst (v := (-1 : Int32)) E.hx E.hb dX9_wordHere_132 ic_m1 ?_
        exact hret _ () _ _ _ _ _ _ hW (Option.some.inj hf).symm rfl (by decide) (by decide) dX9_wordHere_133
      · have hf := oF hc hf
        refine lv_iconst (v := (0 : Int32)) E.hx E.hb dX9_wordHere_14 ic_0 ?_
        refine k_istore_n (lv' := [(3, .int (0 : Int32)), (0, .ref (a_th 0)), (1, .int w1_j4), (2, .int w2_j4)]) E rfl hl dX9_wordHere_15 rfl (by decide) rfl (fun ls hl => ?_)
        have L_16 : ∀ (N_16 : Nat) (w3_j16 : Int32) (H : Heap) (locs : List Loc) (ls : Array Slot) (hW : WD k A s.heap (wModel k a_th th_0) H locs) (hl : lv_has ls 4 [(0, .ref (a_th 0)), (1, .int w1_j4), (2, .int w2_j4), (3, .int w3_j16)]) (hf : l_X9_wordHere_16 n th_0 w1_j4 w2_j4 (l_X9_wordHere_4 n th_0 N_4) N_16 w3_j16 = some res), W p l e { frames := 4, cells := 0, slots := 0, locals := 90 } s m args below meth c H locs 0 0 Q (F0 m 16 ls []) := by
          intro N_16
          induction N_16 with
          | zero => intro w3_j16 H locs ls hW hl hf; exact o0 hf
          | succ N_16 ih_16 =>
            intro w3_j16 H locs ls hW hl hf
            have hf : s_X9_wordHere_16 n th_0 w1_j4 w2_j4 (l_X9_wordHere_4 n th_0 N_4) (l_X9_wordHere_16 n th_0 w1_j4 w2_j4 (l_X9_wordHere_4 n th_0 N_4) N_16) w3_j16 = some res := hf
            unfold s_X9_wordHere_16 at hf
            refine k_words hE E hW rfl dX9_wordHere_16 ?_
            refine k_iload_n E hl 2 dX9_wordHere_19 rfl ?_
            refine k_iload_n E hl 3 dX9_wordHere_20 rfl ?_
            refine lv_iadd E.hx E.hb dX9_wordHere_21 ?_
            obtain ⟨hin, hf⟩ := oI hf
            obtain ⟨hin2, hf⟩ := oI hf
            obtain ⟨x_2, ex_2, hf⟩ := oL hf
            refine k_callO (As := [.int (w2_j4 + w3_j16)]) (c_sat l k hE (14 : Int32) (w2_j4 + w3_j16) hin hin2) E vl_X9_379 (strF hE E hin).1 dX9_wordHere_22 rfl hW hA hl rfl ⟨by decide, by decide⟩ ⟨by decide, by decide⟩ (Nat.le_of_ble_eq_true rfl) (fun r H locs hp hW => ?_)
            subst hp
            refine k_topi ex_2 ?_
            refine lv_bipush (v := (32 : Int32)) E.hx E.hb dX9_wordHere_25 bp_32 ?_
            have J_73 : ∀ (w1_j73 : Int32) (w2_j73 : Int32) (w3_j73 : Int32) (H : Heap) (locs : List Loc) (ls : Array Slot) (hW : WD k A s.heap (wModel k a_th th_0) H locs) (hl : lv_has ls 4 [(0, .ref (a_th 0)), (1, .int w1_j73), (2, .int w2_j73), (3, .int w3_j73)]) (hf : j_X9_wordHere_73 n th_0 (l_X9_wordHere_4 n th_0 N_4) w1_j73 w2_j73 w3_j73 = some res), W p l e { frames := 4, cells := 0, slots := 0, locals := 90 } s m args below meth c H locs 0 0 Q (F0 m 73 ls []) := by
              intro w1_j73 w2_j73 w3_j73 H locs ls hW hl hf
              unfold j_X9_wordHere_73 at hf
              refine k_words hE E hW rfl dX9_wordHere_73 ?_
              refine k_iload_n E hl 2 dX9_wordHere_76 rfl ?_
              refine k_iload_n E hl 3 dX9_wordHere_77 rfl ?_
              refine lv_iadd E.hx E.hb dX9_wordHere_78 ?_
              obtain ⟨hin, hf⟩ := oI hf
              obtain ⟨hin2, hf⟩ := oI hf
              obtain ⟨x_3, ex_3, hf⟩ := oL hf
              refine k_callO (As := [.int (w2_j73 + w3_j73)]) (c_sat l k hE (14 : Int32) (w2_j73 + w3_j73) hin hin2) E vl_X9_379 (strF hE E hin).1 dX9_wordHere_79 rfl hW hA hl rfl ⟨by decide, by decide⟩ ⟨by decide, by decide⟩ (Nat.le_of_ble_eq_true rfl) (fun r H locs hp hW => ?_)
              subst hp
              refine k_topi ex_3 ?_
              refine lv_bipush (v := (32 : Int32)) E.hx E.hb dX9_wordHere_82 bp_32 ?_
              have L_102 : ∀ (N_102 : Nat) (w1_j102 : Int32) (w2_j102 : Int32) (H : Heap) (locs : List Loc) (ls : Array Slot) (hW : WD k A s.heap (wModel k a_th th_0) H locs) (hl : lv_has ls 4 [(0, .ref (a_th 0)), (1, .int w1_j102), (2, .int w2_j102)]) (hf : l_X9_wordHere_102 n th_0 (l_X9_wordHere_4 n th_0 N_4) N_102 w1_j102 w2_j102 = some res), W p l e { frames := 4, cells := 0, slots := 0, locals := 90 } s m args below meth c H locs 0 0 Q (F0 m 102 ls []) := by
                intro N_102
                induction N_102 with
                | zero => intro w1_j102 w2_j102 H locs ls hW hl hf; exact o0 hf
                | succ N_102 ih_102 =>
                  intro w1_j102 w2_j102 H locs ls hW hl hf
                  have hf : s_X9_wordHere_102 n th_0 (l_X9_wordHere_4 n th_0 N_4) (l_X9_wordHere_102 n th_0 (l_X9_wordHere_4 n th_0 N_4) N_102) w1_j102 w2_j102 = some res := hf
                  unfold s_X9_wordHere_102 at hf
                  refine k_words hE E hW rfl dX9_wordHere_102 ?_
                  refine k_iload_n E hl 2 dX9_wordHere_105 rfl ?_
                  obtain ⟨hin, hf⟩ := oI hf
                  obtain ⟨hin2, hf⟩ := oI hf
                  obtain ⟨x_4, ex_4, hf⟩ := oL hf
                  refine k_callO (As := [.int w2_j102]) (c_sat l k hE (14 : Int32) w2_j102 hin hin2) E vl_X9_379 (strF hE E hin).1 dX9_wordHere_106 rfl hW hA hl rfl ⟨by decide, by decide⟩ ⟨by decide, by decide⟩ (Nat.le_of_ble_eq_true rfl) (fun r H locs hp hW => ?_)
                  subst hp
                  refine k_topi ex_4 ?_
                  refine lv_bipush (v := (32 : Int32)) E.hx E.hb dX9_wordHere_109 bp_32 ?_
                  refine lv_icmp_eq (tgt := 121) E.hx E.hb dX9_wordHere_111 (by decide) (fun hc => ?_) (fun hc => ?_)
                  · have hf := oT hc hf
                    refine k_iload_n E hl 2 dX9_wordHere_121 rfl ?_
                    refine lv_iconst (v := (1 : Int32)) E.hx E.hb dX9_wordHere_122 ic_1 ?_
                    refine lv_iadd E.hx E.hb dX9_wordHere_123 ?_
                    obtain ⟨v2_5, ev2_5, hf⟩ := oL hf
                    refine k_istore_n (lv' := [(2, .int v2_5), (0, .ref (a_th 0)), (1, .int w1_j102)]) E ev2_5 hl dX9_wordHere_124 rfl (by decide) rfl (fun ls hl => ?_)
                    refine k_iload_n E hl 2 dX9_wordHere_125 rfl ?_
                    refine lv_iconst (v := (1 : Int32)) E.hx E.hb dX9_wordHere_126 ic_1 ?_
                    refine lv_iadd E.hx E.hb dX9_wordHere_127 ?_
                    obtain ⟨v1_6, ev1_6, hf⟩ := oL hf
                    refine k_istore_n (lv' := [(1, .int v1_6), (2, .int v2_5), (0, .ref (a_th 0))]) E ev1_6 hl dX9_wordHere_128 rfl (by decide) rfl (fun ls hl => ?_)
                    refine lv_goto (tgt := 4) E.hx E.hb dX9_wordHere_129 (by decide) ?_
                    exact ih_4 v1_6 v2_5 _ _ _ hW (lv_sub hl [2, 0, 1] rfl) hf
                  · have hf := oF hc hf
                    refine k_iload_n E hl 2 dX9_wordHere_114 rfl ?_
                    refine lv_iconst (v := (1 : Int32)) E.hx E.hb dX9_wordHere_115 ic_1 ?_
                    refine lv_iadd E.hx E.hb dX9_wordHere_116 ?_
                    obtain ⟨v2_7, ev2_7, hf⟩ := oL hf
                    refine k_istore_n (lv' := [(2, .int v2_7), (0, .ref (a_th 0)), (1, .int w1_j102)]) E ev2_7 hl dX9_wordHere_117 rfl (by decide) rfl (fun ls hl => ?_)
                    refine lv_goto (tgt := 102) E.hx E.hb dX9_wordHere_118 (by decide) ?_
                    exact ih_102 w1_j102 v2_7 _ _ _ hW (lv_sub hl [1, 2, 0] rfl) hf
              refine lv_icmp_ne (tgt := 102) E.hx E.hb dX9_wordHere_84 (by decide) (fun hc => ?_) (fun hc => ?_)
              · have hf := oF hc hf
                exact L_102 n w1_j73 w2_j73 _ _ _ hW (lv_sub hl [0, 1, 2] rfl) hf
              · have hf := oT hc hf
                refine k_aload_n E hl 0 dX9_wordHere_87 rfl ?_
                refine gf_X9_343 E hW 0 rfl rfl dX9_wordHere_88 ?_
                refine k_iload_n E hl 3 dX9_wordHere_91 rfl ?_
                refine lv_iadd E.hx E.hb dX9_wordHere_92 ?_
                refine k_aload_n E hl 0 dX9_wordHere_93 rfl ?_
                refine gf_X9_340 E hW 0 rfl rfl dX9_wordHere_94 ?_
                refine lv_icmp_ne (tgt := 102) E.hx E.hb dX9_wordHere_97 (by decide) (fun hc => ?_) (fun hc => ?_)
                · have hf := oF hc hf
                  exact L_102 n w1_j73 w2_j73 _ _ _ hW (lv_sub hl [0, 1, 2] rfl) hf
                · have hf := oT hc hf
                  refine k_iload_n E hl 1 dX9_wordHere_100 rfl ?_
                  exact hret _ () _ _ _ _ _ _ hW (Option.some.inj hf).symm rfl (by decide) (by decide) dX9_wordHere_101
            refine lv_icmp_eq (tgt := 73) E.hx E.hb dX9_wordHere_27 (by decide) (fun hc => ?_) (fun hc => ?_)
            · have hf := oT hc hf
              exact J_73 w1_j4 w2_j4 w3_j16 _ _ _ hW (lv_sub hl [0, 1, 2, 3] rfl) hf
            · have hf := oF hc hf
              refine k_aload_n E hl 0 dX9_wordHere_30 rfl ?_
              refine gf_X9_343 E hW 0 rfl rfl dX9_wordHere_31 ?_
              refine k_iload_n E hl 3 dX9_wordHere_34 rfl ?_
              refine lv_iadd E.hx E.hb dX9_wordHere_35 ?_
              refine k_aload_n E hl 0 dX9_wordHere_36 rfl ?_
              refine gf_X9_340 E hW 0 rfl rfl dX9_wordHere_37 ?_
              refine lv_icmp_ge (tgt := 73) E.hx E.hb dX9_wordHere_40 (by decide) (fun hc => ?_) (fun hc => ?_)
              · have hf := oT hc hf
                exact J_73 w1_j4 w2_j4 w3_j16 _ _ _ hW (lv_sub hl [0, 1, 2, 3] rfl) hf
              · have hf := oF hc hf
                refine k_aload_n E hl 0 dX9_wordHere_43 rfl ?_
                refine gf_X9_42 E hW 0 rfl rfl dX9_wordHere_44 ?_
                refine k_aload_n E hl 0 dX9_wordHere_47 rfl ?_
                refine gf_X9_343 E hW 0 rfl rfl dX9_wordHere_48 ?_
                refine k_iload_n E hl 3 dX9_wordHere_51 rfl ?_
                refine lv_iadd E.hx E.hb dX9_wordHere_52 ?_
                obtain ⟨hin, hf⟩ := oI hf
                obtain ⟨x_8, ex_8, hf⟩ := oL hf
                refine k_bald E hW 9 rfl hin dX9_wordHere_53 ?_
                refine k_topi ex_8 ?_
                refine k_words hE E hW rfl dX9_wordHere_54 ?_
                refine k_iload_n E hl 2 dX9_wordHere_57 rfl ?_
                refine k_iload_n E hl 3 dX9_wordHere_58 rfl ?_
                refine lv_iadd E.hx E.hb dX9_wordHere_59 ?_
                obtain ⟨hin, hf⟩ := oI hf
                obtain ⟨hin2, hf⟩ := oI hf
                obtain ⟨x_9, ex_9, hf⟩ := oL hf
                refine k_callO (As := [.int (w2_j4 + w3_j16)]) (c_sat l k hE (14 : Int32) (w2_j4 + w3_j16) hin hin2) E vl_X9_379 (strF hE E hin).1 dX9_wordHere_60 rfl hW hA hl rfl ⟨by decide, by decide⟩ ⟨by decide, by decide⟩ (Nat.le_of_ble_eq_true rfl) (fun r H locs hp hW => ?_)
                subst hp
                refine k_topi ex_9 ?_
                refine lv_icmp_ne (tgt := 73) E.hx E.hb dX9_wordHere_63 (by decide) (fun hc => ?_) (fun hc => ?_)
                · have hf := oF hc hf
                  exact J_73 w1_j4 w2_j4 w3_j16 _ _ _ hW (lv_sub hl [0, 1, 2, 3] rfl) hf
                · have hf := oT hc hf
                  refine k_iload_n E hl 3 dX9_wordHere_66 rfl ?_
                  refine lv_iconst (v := (1 : Int32)) E.hx E.hb dX9_wordHere_67 ic_1 ?_
                  refine lv_iadd E.hx E.hb dX9_wordHere_68 ?_
                  obtain ⟨v3_10, ev3_10, hf⟩ := oL hf
                  refine k_istore_n (lv' := [(3, .int v3_10), (0, .ref (a_th 0)), (1, .int w1_j4), (2, .int w2_j4)]) E ev3_10 hl dX9_wordHere_69 rfl (by decide) rfl (fun ls hl => ?_)
                  refine lv_goto (tgt := 16) E.hx E.hb dX9_wordHere_70 (by decide) ?_
                  exact ih_16 v3_10 _ _ _ hW (lv_sub hl [1, 2, 3, 0] rfl) hf
        exact L_16 n (0 : Int32) _ _ _ hW (lv_sub hl [1, 2, 3, 0] rfl) hf
  exact L_4 n (0 : Int32) (0 : Int32) _ _ _ hW (lv_sub hl [2, 1, 0] rfl) hf
def j_X9_next_26 (n : Nat) (rc_0 : (OS) → Option (OS)) (th_j26 : OS) : Option (OS) :=
  Let (sI th_j26 25 ((th_j26.1 25) + (1 : Int32))) (fun th_2 : OS =>
  rc_0 th_2)
def j_X9_next_254 (n : Nat) (th_j254 : OS) : Option (OS) :=
  if ((th_j254.1 25) - (th_j254.1 26)) ≤ (3 : Int32) then (
  Let (sI th_j254 27 (2 : Int32)) (fun th_14 : OS =>
  some th_14)) else (
  Let (sI th_j254 27 (4 : Int32)) (fun th_15 : OS =>
  some th_15))
def j_X9_next_241 (n : Nat) (rc_184 : (OS) → Option (OS)) (th_j241 : OS) : Option (OS) :=
  Let (sI th_j241 25 ((th_j241.1 25) + (1 : Int32))) (fun th_16 : OS =>
  rc_184 th_16)
def s_X9_next_184 (n : Nat) (rc_184 : (OS) → Option (OS)) (th_j184 : OS) : Option (OS) :=
  bnd (f_X9_here n th_j184 (th_j184.1 25)) (fun (r_12 : Int32) =>
  bnd (f_X9_isIn n ((r_12).toInt64) (48 : Int64) (57 : Int64)) (fun (r_13 : Int32) =>
  if r_13 = 0 then (
  j_X9_next_254 n th_j184) else (
  if (3 : Int32) ≤ ((th_j184.1 25) - (th_j184.1 26)) then (
  j_X9_next_241 n rc_184 th_j184) else (
  bnd (f_X9_here n th_j184 (th_j184.1 25)) (fun (r_17 : Int32) =>
  Let (sI th_j184 29 ((((10 : Int32) * (th_j184.1 29)) + r_17) - (48 : Int32))) (fun th_18 : OS =>
  j_X9_next_241 n rc_184 th_18))))))
def l_X9_next_184 (n : Nat) : Nat → (OS) → Option (OS)
  | 0 => fun _ => none
  | N + 1 => s_X9_next_184 n (l_X9_next_184 n N)
def j_X9_next_149 (n : Nat) (th_j149 : OS) : Option (OS) :=
  Let (sI th_j149 27 (1 : Int32)) (fun th_21 : OS =>
  bnd (f_X9_wordHere n th_21) (fun (r_22 : Int32) =>
  Let (sI th_21 28 r_22) (fun th_23 : OS =>
  some th_23)))
def j_X9_next_136 (n : Nat) (rc_85 : (OS) → Option (OS)) (th_j136 : OS) : Option (OS) :=
  Let (sI th_j136 25 ((th_j136.1 25) + (1 : Int32))) (fun th_24 : OS =>
  rc_85 th_24)
def s_X9_next_85 (n : Nat) (rc_85 : (OS) → Option (OS)) (th_j85 : OS) : Option (OS) :=
  bnd (f_X9_isLetter n th_j85 (th_j85.1 25)) (fun (r_20 : Int32) =>
  if r_20 = 0 then (
  j_X9_next_149 n th_j85) else (
  if (6 : Int32) ≤ ((th_j85.1 25) - (th_j85.1 26)) then (
  j_X9_next_136 n rc_85 th_j85) else (
  bnd (f_X9_here n th_j85 (th_j85.1 25)) (fun (r_25 : Int32) =>
  Let (sl th_j85 30 ((((32 : Int64) * (th_j85.2.2.2 30)) + ((r_25).toInt64)) - (96 : Int64))) (fun th_26 : OS =>
  j_X9_next_136 n rc_85 th_26)))))
def l_X9_next_85 (n : Nat) : Nat → (OS) → Option (OS)
  | 0 => fun _ => none
  | N + 1 => s_X9_next_85 n (l_X9_next_85 n N)
def j_X9_next_39 (n : Nat) (th_j39 : OS) : Option (OS) :=
  Let (sI th_j39 26 (th_j39.1 25)) (fun th_4 : OS =>
  bnd (f_X9_here n th_4 (th_4.1 25)) (fun (r_5 : Int32) =>
  if r_5 = (-1 : Int32) then (
  Let (sI th_4 27 (0 : Int32)) (fun th_27 : OS =>
  some th_27)) else (
  bnd (f_X9_isLetter n th_4 (th_4.1 25)) (fun (r_6 : Int32) =>
  if r_6 = 0 then (
  bnd (f_X9_isIn n ((r_5).toInt64) (48 : Int64) (57 : Int64)) (fun (r_7 : Int32) =>
  if r_7 = 0 then (
  Let (sI th_4 25 ((th_4.1 25) + (1 : Int32))) (fun th_8 : OS =>
  if r_5 = (59 : Int32) then (
  Let (sI th_8 27 (3 : Int32)) (fun th_10 : OS =>
  some th_10)) else (
  Let (sI th_8 27 (4 : Int32)) (fun th_9 : OS =>
  some th_9)))) else (
  Let (sI th_4 29 (0 : Int32)) (fun th_11 : OS =>
  l_X9_next_184 n n th_11)))) else (
  Let (sl th_4 30 (0 : Int64)) (fun th_19 : OS =>
  l_X9_next_85 n n th_19))))))
def s_X9_next_0 (n : Nat) (rc_0 : (OS) → Option (OS)) (th_j0 : OS) : Option (OS) :=
  bnd (f_X9_here n th_j0 (th_j0.1 25)) (fun (r_1 : Int32) =>
  if r_1 = (32 : Int32) then (
  j_X9_next_26 n rc_0 th_j0) else (
  bnd (f_X9_here n th_j0 (th_j0.1 25)) (fun (r_3 : Int32) =>
  if r_3 = (10 : Int32) then (
  j_X9_next_26 n rc_0 th_j0) else (
  j_X9_next_39 n th_j0))))
def l_X9_next_0 (n : Nat) : Nat → (OS) → Option (OS)
  | 0 => fun _ => none
  | N + 1 => s_X9_next_0 n (l_X9_next_0 n N)
def f_X9_next (n : Nat) (th_0 : OS) : Option (OS) :=
  l_X9_next_0 n n th_0
set_option maxHeartbeats 4000000 in
set_option maxRecDepth 100000 in
theorem c_X9_next (n : Nat) (l : Launch) (k : KT) (hE : EH k) (a_th : Nat → Nat) (th_0 : OS) (res : (OS)) (hf : f_X9_next n th_0 = some res) : CG l k yX9_next cX9_next 2 none 5 0 0 113 [.ref (a_th 0)] (wModel k a_th th_0) (Qv k (fun u : OS => wModel k a_th u) (fun u : OS => res = u)) := by
  refine CG.ofV (by decide) (Nat.le_of_ble_eq_true rfl) (fun p e s m args below meth c A Q E hnm hW hA hret ls hl => ?_)
  have hl : lv_has ls 2 [(0, .ref (a_th 0))] := hl
  unfold f_X9_next at hf
  have L_0 : ∀ (N_0 : Nat) (th_j0 : OS) (H : Heap) (locs : List Loc) (ls : Array Slot) (hW : WD k A s.heap (wModel k a_th th_j0) H locs) (hl : lv_has ls 2 [(0, .ref (a_th 0))]) (hf : l_X9_next_0 n N_0 th_j0 = some res), W p l e { frames := 5, cells := 0, slots := 0, locals := 113 } s m args below meth c H locs 0 0 Q (F0 m 0 ls []) := by
    intro N_0
    induction N_0 with
    | zero => intro th_j0 H locs ls hW hl hf; exact o0 hf
    | succ N_0 ih_0 =>
      intro th_j0 H locs ls hW hl hf
      have hf : s_X9_next_0 n  (l_X9_next_0 n N_0) th_j0 = some res := hf
      unfold s_X9_next_0 at hf
      refine k_aload_n E hl 0 dX9_next_0 rfl ?_
      refine k_aload_n E hl 0 dX9_next_1 rfl ?_
      refine gf_X9_340 E hW 0 rfl rfl dX9_next_2 ?_
      obtain ⟨r_1, hg, hf⟩ := ob hf
      refine k_callVi (As := [.int (th_j0.1 25)]) (rest := []) (ws2 := fun u => wModel k a_th th_j0) (c_X9_here n l k a_th th_j0 (th_j0.1 25) r_1 hg) E vl_X9_333 dX9_next_5 rfl [0, 1, 2, 3, 4, 5, 6, 7, 8, 9, 10, 11, 12] 7 0 hW hA hl rfl rfl rfl rfl ⟨by decide, by decide⟩ ⟨by decide, by decide⟩ (Nat.le_of_ble_eq_true rfl) rfl (fun _ => rfl) (fun _ => rfl) (fun r u H locs hp hW => ?_)
      cases hp
      have hW : WD k A s.heap (wModel k a_th th_j0) H locs := hW
      refine lv_bipush (v := (32 : Int32)) E.hx E.hb dX9_next_8 bp_32 ?_
      have J_26 : ∀ (th_j26 : OS) (H : Heap) (locs : List Loc) (ls : Array Slot) (hW : WD k A s.heap (wModel k a_th th_j26) H locs) (hl : lv_has ls 2 [(0, .ref (a_th 0))]) (hf : j_X9_next_26 n (l_X9_next_0 n N_0) th_j26 = some res), W p l e { frames := 5, cells := 0, slots := 0, locals := 113 } s m args below meth c H locs 0 0 Q (F0 m 26 ls []) := by
        intro th_j26 H locs ls hW hl hf
        unfold j_X9_next_26 at hf
        refine k_aload_n E hl 0 dX9_next_26 rfl ?_
        refine k_aload_n E hl 0 dX9_next_27 rfl ?_
        refine gf_X9_340 E hW 0 rfl rfl dX9_next_28 ?_
        refine lv_iconst (v := (1 : Int32)) E.hx E.hb dX9_next_31 ic_1 ?_
        refine lv_iadd E.hx E.hb dX9_next_32 ?_
        obtain ⟨th_2, eth_2, hf⟩ := oL hf
        refine pf_X9_340 (ws2 := wModel k a_th th_2) E hW 0 rfl rfl rfl (Nat.le_of_ble_eq_true rfl) dX9_next_33 (by rw [eth_2]; rfl) (fun H locs hW => ?_)
        refine lv_goto (tgt := 0) E.hx E.hb dX9_next_36 (by decide) ?_
        exact ih_0 th_2 _ _ _ hW (lv_sub hl [0] rfl) hf
      refine lv_icmp_eq (tgt := 26) E.hx E.hb dX9_next_10 (by decide) (fun hc => ?_) (fun hc => ?_)
      · have hf := oT hc hf
        exact J_26 th_j0 _ _ _ hW (lv_sub hl [0] rfl) hf
      · have hf := oF hc hf
        refine k_aload_n E hl 0 dX9_next_13 rfl ?_
        refine k_aload_n E hl 0 dX9_next_14 rfl ?_
        refine gf_X9_340 E hW 0 rfl rfl dX9_next_15 ?_
        obtain ⟨r_3, hg, hf⟩ := ob hf
        refine k_callVi (As := [.int (th_j0.1 25)]) (rest := []) (ws2 := fun u => wModel k a_th th_j0) (c_X9_here n l k a_th th_j0 (th_j0.1 25) r_3 hg) E vl_X9_333 dX9_next_18 rfl [0, 1, 2, 3, 4, 5, 6, 7, 8, 9, 10, 11, 12] 7 0 hW hA hl rfl rfl rfl rfl ⟨by decide, by decide⟩ ⟨by decide, by decide⟩ (Nat.le_of_ble_eq_true rfl) rfl (fun _ => rfl) (fun _ => rfl) (fun r u H locs hp hW => ?_)
        cases hp
        have hW : WD k A s.heap (wModel k a_th th_j0) H locs := hW
        refine lv_bipush (v := (10 : Int32)) E.hx E.hb dX9_next_21 bp_10 ?_
        have J_39 : ∀ (th_j39 : OS) (H : Heap) (locs : List Loc) (ls : Array Slot) (hW : WD k A s.heap (wModel k a_th th_j39) H locs) (hl : lv_has ls 2 [(0, .ref (a_th 0))]) (hf : j_X9_next_39 n  th_j39 = some res), W p l e { frames := 5, cells := 0, slots := 0, locals := 113 } s m args below meth c H locs 0 0 Q (F0 m 39 ls []) := by
          intro th_j39 H locs ls hW hl hf
          unfold j_X9_next_39 at hf
          refine k_aload_n E hl 0 dX9_next_39 rfl ?_
          refine k_aload_n E hl 0 dX9_next_40 rfl ?_
          refine gf_X9_340 E hW 0 rfl rfl dX9_next_41 ?_
          obtain ⟨th_4, eth_4, hf⟩ := oL hf
          refine pf_X9_343 (ws2 := wModel k a_th th_4) E hW 0 rfl rfl rfl (Nat.le_of_ble_eq_true rfl) dX9_next_44 (by rw [eth_4]; rfl) (fun H locs hW => ?_)
          refine k_aload_n E hl 0 dX9_next_47 rfl ?_
          refine k_aload_n E hl 0 dX9_next_48 rfl ?_
          refine gf_X9_340 E hW 0 rfl rfl dX9_next_49 ?_
          obtain ⟨r_5, hg, hf⟩ := ob hf
          refine k_callVi (As := [.int (th_4.1 25)]) (rest := []) (ws2 := fun u => wModel k a_th th_4) (c_X9_here n l k a_th th_4 (th_4.1 25) r_5 hg) E vl_X9_333 dX9_next_52 rfl [0, 1, 2, 3, 4, 5, 6, 7, 8, 9, 10, 11, 12] 7 0 hW hA hl rfl rfl rfl rfl ⟨by decide, by decide⟩ ⟨by decide, by decide⟩ (Nat.le_of_ble_eq_true rfl) rfl (fun _ => rfl) (fun _ => rfl) (fun r u H locs hp hW => ?_)
          cases hp
          have hW : WD k A s.heap (wModel k a_th th_4) H locs := hW
          refine k_istore_n (lv' := [(1, .int r_5), (0, .ref (a_th 0))]) E rfl hl dX9_next_55 rfl (by decide) rfl (fun ls hl => ?_)
          refine k_iload_n E hl 0 dX9_next_56 rfl ?_
          refine lv_iconst (v := (-1 : Int32)) E.hx E.hb dX9_next_57 ic_m1 ?_
          refine lv_icmp_ne (tgt := 69) E.hx E.hb dX9_next_58 (by decide) (fun hc => ?_) (fun hc => ?_)
          · have hf := oF hc hf
            refine k_aload_n E hl 1 dX9_next_69 rfl ?_
            refine k_aload_n E hl 1 dX9_next_70 rfl ?_
            refine gf_X9_340 E hW 0 rfl rfl dX9_next_71 ?_
            obtain ⟨r_6, hg, hf⟩ := ob hf
            refine k_callVi (As := [.int (th_4.1 25)]) (rest := []) (ws2 := fun u => wModel k a_th th_4) (c_X9_isLetter n l k a_th th_4 (th_4.1 25) r_6 hg) E vl_X9_349 dX9_next_74 rfl [0, 1, 2, 3, 4, 5, 6, 7, 8, 9, 10, 11, 12] 7 0 hW hA hl rfl rfl rfl rfl ⟨by decide, by decide⟩ ⟨by decide, by decide⟩ (Nat.le_of_ble_eq_true rfl) rfl (fun _ => rfl) (fun _ => rfl) (fun r u H locs hp hW => ?_)
            cases hp
            have hW : WD k A s.heap (wModel k a_th th_4) H locs := hW
            refine lv_if_eq (tgt := 165) E.hx E.hb dX9_next_77 (by decide) (fun hc => ?_) (fun hc => ?_)
            · have hf := oT hc hf
              refine k_iload_n E hl 0 dX9_next_165 rfl ?_
              refine lv_i2l (v := (r_5).toInt64) E.hx E.hb dX9_next_166 rfl ?_
              refine lv_ldc2 E.hx E.hb E.ho (E.w tm_1866 rfl) dX9_next_167 ?_
              refine lv_ldc2 E.hx E.hb E.ho (E.w tm_1867 rfl) dX9_next_170 ?_
              obtain ⟨r_7, hg, hf⟩ := ob hf
              refine k_callSi (As := [.long ((r_5).toInt64), .long (48 : Int64), .long (57 : Int64)]) (rest := []) (ws2 := fun u => wModel k a_th th_4) (c_X9_isIn n l k ((r_5).toInt64) (48 : Int64) (57 : Int64) r_7 hg) E sl_X9_92 dX9_next_173 rfl [] hW hA hl rfl rfl ⟨by decide, by decide⟩ ⟨by decide, by decide⟩ (Nat.le_of_ble_eq_true rfl) rfl (fun _ => rfl) (fun _ => rfl) (fun r u H locs hp hW => ?_)
              cases hp
              have hW : WD k A s.heap (wModel k a_th th_4) H locs := hW
              refine lv_if_eq (tgt := 279) E.hx E.hb dX9_next_176 (by decide) (fun hc => ?_) (fun hc => ?_)
              · have hf := oT hc hf
                refine k_aload_n E hl 1 dX9_next_279 rfl ?_
                refine k_aload_n E hl 1 dX9_next_280 rfl ?_
                refine gf_X9_340 E hW 0 rfl rfl dX9_next_281 ?_
                refine lv_iconst (v := (1 : Int32)) E.hx E.hb dX9_next_284 ic_1 ?_
                refine lv_iadd E.hx E.hb dX9_next_285 ?_
                obtain ⟨th_8, eth_8, hf⟩ := oL hf
                refine pf_X9_340 (ws2 := wModel k a_th th_8) E hW 0 rfl rfl rfl (Nat.le_of_ble_eq_true rfl) dX9_next_286 (by rw [eth_8]; rfl) (fun H locs hW => ?_)
                refine k_aload_n E hl 1 dX9_next_289 rfl ?_
                refine k_iload_n E hl 0 dX9_next_290 rfl ?_
                refine lv_bipush (v := (59 : Int32)) E.hx E.hb dX9_next_291 bp_59 ?_
                refine lv_icmp_ne (tgt := 300) E.hx E.hb dX9_next_293 (by decide) (fun hc => ?_) (fun hc => ?_)
                · have hf := oF hc hf
                  refine lv_iconst (v := (4 : Int32)) E.hx E.hb dX9_next_300 ic_4 ?_
                  obtain ⟨th_9, eth_9, hf⟩ := oL hf
                  refine pf_X9_346 (ws2 := wModel k a_th th_9) E hW 0 rfl rfl rfl (Nat.le_of_ble_eq_true rfl) dX9_next_301 (by rw [eth_9]; rfl) (fun H locs hW => ?_)
                  exact hret th_9 _ _ _ _ _ _ hW (Option.some.inj hf).symm (by decide) (by decide) dX9_next_304
                · have hf := oT hc hf
                  refine lv_iconst (v := (3 : Int32)) E.hx E.hb dX9_next_296 ic_3 ?_
                  refine lv_goto (tgt := 301) E.hx E.hb dX9_next_297 (by decide) ?_
                  obtain ⟨th_10, eth_10, hf⟩ := oL hf
                  refine pf_X9_346 (ws2 := wModel k a_th th_10) E hW 0 rfl rfl rfl (Nat.le_of_ble_eq_true rfl) dX9_next_301 (by rw [eth_10]; rfl) (fun H locs hW => ?_)
                  exact hret th_10 _ _ _ _ _ _ hW (Option.some.inj hf).symm (by decide) (by decide) dX9_next_304
              · have hf := oF hc hf
                refine k_aload_n E hl 1 dX9_next_179 rfl ?_
                refine lv_iconst (v := (0 : Int32)) E.hx E.hb dX9_next_180 ic_0 ?_
                obtain ⟨th_11, eth_11, hf⟩ := oL hf
                refine pf_X9_370 (ws2 := wModel k a_th th_11) E hW 0 rfl rfl rfl (Nat.le_of_ble_eq_true rfl) dX9_next_181 (by rw [eth_11]; rfl) (fun H locs hW => ?_)
                have L_184 : ∀ (N_184 : Nat) (th_j184 : OS) (H : Heap) (locs : List Loc) (ls : Array Slot) (hW : WD k A s.heap (wModel k a_th th_j184) H locs) (hl : lv_has ls 2 [(0, .ref (a_th 0))]) (hf : l_X9_next_184 n N_184 th_j184 = some res), W p l e { frames := 5, cells := 0, slots := 0, locals := 113 } s m args below meth c H locs 0 0 Q (F0 m 184 ls []) := by
                  intro N_184
                  induction N_184 with
                  | zero => intro th_j184 H locs ls hW hl hf; exact o0 hf
                  | succ N_184 ih_184 =>
                    intro th_j184 H locs ls hW hl hf
                    have hf : s_X9_next_184 n  (l_X9_next_184 n N_184) th_j184 = some res := hf
                    unfold s_X9_next_184 at hf
                    refine k_aload_n E hl 0 dX9_next_184 rfl ?_
                    refine k_aload_n E hl 0 dX9_next_185 rfl ?_
                    refine gf_X9_340 E hW 0 rfl rfl dX9_next_186 ?_
                    obtain ⟨r_12, hg, hf⟩ := ob hf
                    refine k_callVi (As := [.int (th_j184.1 25)]) (rest := []) (ws2 := fun u => wModel k a_th th_j184) (c_X9_here n l k a_th th_j184 (th_j184.1 25) r_12 hg) E vl_X9_333 dX9_next_189 rfl [0, 1, 2, 3, 4, 5, 6, 7, 8, 9, 10, 11, 12] 7 0 hW hA hl rfl rfl rfl rfl ⟨by decide, by decide⟩ ⟨by decide, by decide⟩ (Nat.le_of_ble_eq_true rfl) rfl (fun _ => rfl) (fun _ => rfl) (fun r u H locs hp hW => ?_)
                    cases hp
                    have hW : WD k A s.heap (wModel k a_th th_j184) H locs := hW
                    refine lv_i2l (v := (r_12).toInt64) E.hx E.hb dX9_next_192 rfl ?_
                    refine lv_ldc2 E.hx E.hb E.ho (E.w tm_1866 rfl) dX9_next_193 ?_
                    refine lv_ldc2 E.hx E.hb E.ho (E.w tm_1867 rfl) dX9_next_196 ?_
                    obtain ⟨r_13, hg, hf⟩ := ob hf
                    refine k_callSi (As := [.long ((r_12).toInt64), .long (48 : Int64), .long (57 : Int64)]) (rest := []) (ws2 := fun u => wModel k a_th th_j184) (c_X9_isIn n l k ((r_12).toInt64) (48 : Int64) (57 : Int64) r_13 hg) E sl_X9_92 dX9_next_199 rfl [] hW hA hl rfl rfl ⟨by decide, by decide⟩ ⟨by decide, by decide⟩ (Nat.le_of_ble_eq_true rfl) rfl (fun _ => rfl) (fun _ => rfl) (fun r u H locs hp hW => ?_)
                    cases hp
                    have hW : WD k A s.heap (wModel k a_th th_j184) H locs := hW
                    have J_254 : ∀ (th_j254 : OS) (H : Heap) (locs : List Loc) (ls : Array Slot) (hW : WD k A s.heap (wModel k a_th th_j254) H locs) (hl : lv_has ls 2 [(0, .ref (a_th 0))]) (hf : j_X9_next_254 n  th_j254 = some res), W p l e { frames := 5, cells := 0, slots := 0, locals := 113 } s m args below meth c H locs 0 0 Q (F0 m 254 ls []) := by
                      intro th_j254 H locs ls hW hl hf
                      unfold j_X9_next_254 at hf
                      refine k_aload_n E hl 0 dX9_next_254 rfl ?_
                      refine k_aload_n E hl 0 dX9_next_255 rfl ?_
                      refine gf_X9_340 E hW 0 rfl rfl dX9_next_256 ?_
                      refine k_aload_n E hl 0 dX9_next_259 rfl ?_
                      refine gf_X9_343 E hW 0 rfl rfl dX9_next_260 ?_
                      refine lv_isub E.hx E.hb dX9_next_263 ?_
                      refine lv_iconst (v := (3 : Int32)) E.hx E.hb dX9_next_264 ic_3 ?_
                      refine lv_icmp_le (tgt := 272) E.hx E.hb dX9_next_265 (by decide) (fun hc => ?_) (fun hc => ?_)
                      · have hf := oT hc hf
                        refine lv_iconst (v := (2 : Int32)) E.hx E.hb dX9_next_272 ic_2 ?_
                        obtain ⟨th_14, eth_14, hf⟩ := oL hf
                        refine pf_X9_346 (ws2 := wModel k a_th th_14) E hW 0 rfl rfl rfl (Nat.le_of_ble_eq_true rfl) dX9_next_273 (by rw [eth_14]; rfl) (fun H locs hW => ?_)
                        refine lv_goto (tgt := 304) E.hx E.hb dX9_next_276 (by decide) ?_
                        exact hret th_14 _ _ _ _ _ _ hW (Option.some.inj hf).symm (by decide) (by decide) dX9_next_304
                      · have hf := oF hc hf
                        refine lv_iconst (v := (4 : Int32)) E.hx E.hb dX9_next_268 ic_4 ?_
                        refine lv_goto (tgt := 273) E.hx E.hb dX9_next_269 (by decide) ?_
                        obtain ⟨th_15, eth_15, hf⟩ := oL hf
                        refine pf_X9_346 (ws2 := wModel k a_th th_15) E hW 0 rfl rfl rfl (Nat.le_of_ble_eq_true rfl) dX9_next_273 (by rw [eth_15]; rfl) (fun H locs hW => ?_)
                        refine lv_goto (tgt := 304) E.hx E.hb dX9_next_276 (by decide) ?_
                        exact hret th_15 _ _ _ _ _ _ hW (Option.some.inj hf).symm (by decide) (by decide) dX9_next_304
                    refine lv_if_eq (tgt := 254) E.hx E.hb dX9_next_202 (by decide) (fun hc => ?_) (fun hc => ?_)
                    · have hf := oT hc hf
                      exact J_254 th_j184 _ _ _ hW (lv_sub hl [0] rfl) hf
                    · have hf := oF hc hf
                      refine k_aload_n E hl 0 dX9_next_205 rfl ?_
                      refine gf_X9_340 E hW 0 rfl rfl dX9_next_206 ?_
                      refine k_aload_n E hl 0 dX9_next_209 rfl ?_
                      refine gf_X9_343 E hW 0 rfl rfl dX9_next_210 ?_
                      refine lv_isub E.hx E.hb dX9_next_213 ?_
                      refine lv_iconst (v := (3 : Int32)) E.hx E.hb dX9_next_214 ic_3 ?_
                      have J_241 : ∀ (th_j241 : OS) (H : Heap) (locs : List Loc) (ls : Array Slot) (hW : WD k A s.heap (wModel k a_th th_j241) H locs) (hl : lv_has ls 2 [(0, .ref (a_th 0))]) (hf : j_X9_next_241 n (l_X9_next_184 n N_184) th_j241 = some res), W p l e { frames := 5, cells := 0, slots := 0, locals := 113 } s m args below meth c H locs 0 0 Q (F0 m 241 ls []) := by
                        intro th_j241 H locs ls hW hl hf
                        unfold j_X9_next_241 at hf
                        refine k_aload_n E hl 0 dX9_next_241 rfl ?_
                        refine lv_dup E.hx E.hb dX9_next_242 rfl ?_
                        refine gf_X9_340 E hW 0 rfl rfl dX9_next_243 ?_
                        refine lv_iconst (v := (1 : Int32)) E.hx E.hb dX9_next_246 ic_1 ?_
                        refine lv_iadd E.hx E.hb dX9_next_247 ?_
                        obtain ⟨th_16, eth_16, hf⟩ := oL hf
                        refine pf_X9_340 (ws2 := wModel k a_th th_16) E hW 0 rfl rfl rfl (Nat.le_of_ble_eq_true rfl) dX9_next_248 (by rw [eth_16]; rfl) (fun H locs hW => ?_)
                        refine lv_goto (tgt := 184) E.hx E.hb dX9_next_251 (by decide) ?_
                        exact ih_184 th_16 _ _ _ hW (lv_sub hl [0] rfl) hf
                      refine lv_icmp_ge (tgt := 241) E.hx E.hb dX9_next_215 (by decide) (fun hc => ?_) (fun hc => ?_)
                      · have hf := oT hc hf
                        exact J_241 th_j184 _ _ _ hW (lv_sub hl [0] rfl) hf
                      · have hf := oF hc hf
                        refine k_aload_n E hl 0 dX9_next_218 rfl ?_
                        refine lv_bipush (v := (10 : Int32)) E.hx E.hb dX9_next_219 bp_10 ?_
                        refine k_aload_n E hl 0 dX9_next_221 rfl ?_
                        refine gf_X9_370 E hW 0 rfl rfl dX9_next_222 ?_
                        refine lv_imul E.hx E.hb dX9_next_225 ?_
                        refine k_aload_n E hl 0 dX9_next_226 rfl ?_
                        refine k_aload_n E hl 0 dX9_next_227 rfl ?_
                        refine gf_X9_340 E hW 0 rfl rfl dX9_next_228 ?_
                        obtain ⟨r_17, hg, hf⟩ := ob hf
                        refine k_callVi (As := [.int (th_j184.1 25)]) (rest := [.int ((10 : Int32) * (th_j184.1 29)), .ref (a_th 0)]) (ws2 := fun u => wModel k a_th th_j184) (c_X9_here n l k a_th th_j184 (th_j184.1 25) r_17 hg) E vl_X9_333 dX9_next_231 rfl [0, 1, 2, 3, 4, 5, 6, 7, 8, 9, 10, 11, 12] 7 0 hW hA hl rfl rfl rfl rfl ⟨by decide, by decide⟩ ⟨by decide, by decide⟩ (Nat.le_of_ble_eq_true rfl) rfl (fun _ => rfl) (fun _ => rfl) (fun r u H locs hp hW => ?_)
                        cases hp
                        have hW : WD k A s.heap (wModel k a_th th_j184) H locs := hW
                        refine lv_iadd E.hx E.hb dX9_next_234 ?_
                        refine lv_bipush (v := (48 : Int32)) E.hx E.hb dX9_next_235 bp_48 ?_
                        refine lv_isub E.hx E.hb dX9_next_237 ?_
                        obtain ⟨th_18, eth_18, hf⟩ := oL hf
                        refine pf_X9_370 (ws2 := wModel k a_th th_18) E hW 0 rfl rfl rfl (Nat.le_of_ble_eq_true rfl) dX9_next_238 (by rw [eth_18]; rfl) (fun H locs hW => ?_)
                        exact J_241 th_18 _ _ _ hW (lv_sub hl [0] rfl) hf
                exact L_184 n th_11 _ _ _ hW (lv_sub hl [1] rfl) hf
            · have hf := oF hc hf
              refine k_aload_n E hl 1 dX9_next_80 rfl ?_
              refine lv_lconst (v := (0 : Int64)) E.hx E.hb dX9_next_81 (by decide) ?_
              obtain ⟨th_19, eth_19, hf⟩ := oL hf
              refine pf_X9_352 (ws2 := wModel k a_th th_19) E hW 0 rfl rfl rfl (Nat.le_of_ble_eq_true rfl) dX9_next_82 (by rw [eth_19]; rfl) (fun H locs hW => ?_)
              have L_85 : ∀ (N_85 : Nat) (th_j85 : OS) (H : Heap) (locs : List Loc) (ls : Array Slot) (hW : WD k A s.heap (wModel k a_th th_j85) H locs) (hl : lv_has ls 2 [(0, .ref (a_th 0))]) (hf : l_X9_next_85 n N_85 th_j85 = some res), W p l e { frames := 5, cells := 0, slots := 0, locals := 113 } s m args below meth c H locs 0 0 Q (F0 m 85 ls []) := by
                intro N_85
                induction N_85 with
                | zero => intro th_j85 H locs ls hW hl hf; exact o0 hf
                | succ N_85 ih_85 =>
                  intro th_j85 H locs ls hW hl hf
                  have hf : s_X9_next_85 n  (l_X9_next_85 n N_85) th_j85 = some res := hf
                  unfold s_X9_next_85 at hf
                  refine k_aload_n E hl 0 dX9_next_85 rfl ?_
                  refine k_aload_n E hl 0 dX9_next_86 rfl ?_
                  refine gf_X9_340 E hW 0 rfl rfl dX9_next_87 ?_
                  obtain ⟨r_20, hg, hf⟩ := ob hf
                  refine k_callVi (As := [.int (th_j85.1 25)]) (rest := []) (ws2 := fun u => wModel k a_th th_j85) (c_X9_isLetter n l k a_th th_j85 (th_j85.1 25) r_20 hg) E vl_X9_349 dX9_next_90 rfl [0, 1, 2, 3, 4, 5, 6, 7, 8, 9, 10, 11, 12] 7 0 hW hA hl rfl rfl rfl rfl ⟨by decide, by decide⟩ ⟨by decide, by decide⟩ (Nat.le_of_ble_eq_true rfl) rfl (fun _ => rfl) (fun _ => rfl) (fun r u H locs hp hW => ?_)
                  cases hp
                  have hW : WD k A s.heap (wModel k a_th th_j85) H locs := hW
                  have J_149 : ∀ (th_j149 : OS) (H : Heap) (locs : List Loc) (ls : Array Slot) (hW : WD k A s.heap (wModel k a_th th_j149) H locs) (hl : lv_has ls 2 [(0, .ref (a_th 0))]) (hf : j_X9_next_149 n  th_j149 = some res), W p l e { frames := 5, cells := 0, slots := 0, locals := 113 } s m args below meth c H locs 0 0 Q (F0 m 149 ls []) := by
                    intro th_j149 H locs ls hW hl hf
                    unfold j_X9_next_149 at hf
                    refine k_aload_n E hl 0 dX9_next_149 rfl ?_
                    refine lv_iconst (v := (1 : Int32)) E.hx E.hb dX9_next_150 ic_1 ?_
                    obtain ⟨th_21, eth_21, hf⟩ := oL hf
                    refine pf_X9_346 (ws2 := wModel k a_th th_21) E hW 0 rfl rfl rfl (Nat.le_of_ble_eq_true rfl) dX9_next_151 (by rw [eth_21]; rfl) (fun H locs hW => ?_)
                    refine k_aload_n E hl 0 dX9_next_154 rfl ?_
                    refine k_aload_n E hl 0 dX9_next_155 rfl ?_
                    obtain ⟨r_22, hg, hf⟩ := ob hf
                    refine k_callVi (As := []) (rest := [.ref (a_th 0)]) (ws2 := fun u => wModel k a_th th_21) (c_X9_wordHere n l k hE a_th th_21 r_22 hg) E vl_X9_360 dX9_next_156 rfl [0, 1, 2, 3, 4, 5, 6, 7, 8, 9, 10, 11, 12] 7 0 hW hA hl rfl rfl rfl rfl ⟨by decide, by decide⟩ ⟨by decide, by decide⟩ (Nat.le_of_ble_eq_true rfl) rfl (fun _ => rfl) (fun _ => rfl) (fun r u H locs hp hW => ?_)
                    cases hp
                    have hW : WD k A s.heap (wModel k a_th th_21) H locs := hW
                    obtain ⟨th_23, eth_23, hf⟩ := oL hf
                    refine pf_X9_363 (ws2 := wModel k a_th th_23) E hW 0 rfl rfl rfl (Nat.le_of_ble_eq_true rfl) dX9_next_159 (by rw [eth_23]; rfl) (fun H locs hW => ?_)
                    refine lv_goto (tgt := 304) E.hx E.hb dX9_next_162 (by decide) ?_
                    exact hret th_23 _ _ _ _ _ _ hW (Option.some.inj hf).symm (by decide) (by decide) dX9_next_304
                  refine lv_if_eq (tgt := 149) E.hx E.hb dX9_next_93 (by decide) (fun hc => ?_) (fun hc => ?_)
                  · have hf := oT hc hf
                    exact J_149 th_j85 _ _ _ hW (lv_sub hl [0] rfl) hf
                  · have hf := oF hc hf
                    refine k_aload_n E hl 0 dX9_next_96 rfl ?_
                    refine gf_X9_340 E hW 0 rfl rfl dX9_next_97 ?_
                    refine k_aload_n E hl 0 dX9_next_100 rfl ?_
                    refine gf_X9_343 E hW 0 rfl rfl dX9_next_101 ?_
                    refine lv_isub E.hx E.hb dX9_next_104 ?_
                    refine lv_bipush (v := (6 : Int32)) E.hx E.hb dX9_next_105 bp_6 ?_
                    have J_136 : ∀ (th_j136 : OS) (H : Heap) (locs : List Loc) (ls : Array Slot) (hW : WD k A s.heap (wModel k a_th th_j136) H locs) (hl : lv_has ls 2 [(0, .ref (a_th 0))]) (hf : j_X9_next_136 n (l_X9_next_85 n N_85) th_j136 = some res), W p l e { frames := 5, cells := 0, slots := 0, locals := 113 } s m args below meth c H locs 0 0 Q (F0 m 136 ls []) := by
                      intro th_j136 H locs ls hW hl hf
                      unfold j_X9_next_136 at hf
                      refine k_aload_n E hl 0 dX9_next_136 rfl ?_
                      refine lv_dup E.hx E.hb dX9_next_137 rfl ?_
                      refine gf_X9_340 E hW 0 rfl rfl dX9_next_138 ?_
                      refine lv_iconst (v := (1 : Int32)) E.hx E.hb dX9_next_141 ic_1 ?_
                      refine lv_iadd E.hx E.hb dX9_next_142 ?_
                      obtain ⟨th_24, eth_24, hf⟩ := oL hf
                      refine pf_X9_340 (ws2 := wModel k a_th th_24) E hW 0 rfl rfl rfl (Nat.le_of_ble_eq_true rfl) dX9_next_143 (by rw [eth_24]; rfl) (fun H locs hW => ?_)
                      refine lv_goto (tgt := 85) E.hx E.hb dX9_next_146 (by decide) ?_
                      exact ih_85 th_24 _ _ _ hW (lv_sub hl [0] rfl) hf
                    refine lv_icmp_ge (tgt := 136) E.hx E.hb dX9_next_107 (by decide) (fun hc => ?_) (fun hc => ?_)
                    · have hf := oT hc hf
                      exact J_136 th_j85 _ _ _ hW (lv_sub hl [0] rfl) hf
                    · have hf := oF hc hf
                      refine k_aload_n E hl 0 dX9_next_110 rfl ?_
                      refine lv_ldc2 E.hx E.hb E.ho (E.w tm_1857 rfl) dX9_next_111 ?_
                      refine k_aload_n E hl 0 dX9_next_114 rfl ?_
                      refine gf_X9_352 E hW 0 rfl rfl dX9_next_115 ?_
                      refine lv_lmul E.hx E.hb dX9_next_118 ?_
                      refine k_aload_n E hl 0 dX9_next_119 rfl ?_
                      refine k_aload_n E hl 0 dX9_next_120 rfl ?_
                      refine gf_X9_340 E hW 0 rfl rfl dX9_next_121 ?_
                      obtain ⟨r_25, hg, hf⟩ := ob hf
                      refine k_callVi (As := [.int (th_j85.1 25)]) (rest := [.long ((32 : Int64) * (th_j85.2.2.2 30)), .ref (a_th 0)]) (ws2 := fun u => wModel k a_th th_j85) (c_X9_here n l k a_th th_j85 (th_j85.1 25) r_25 hg) E vl_X9_333 dX9_next_124 rfl [0, 1, 2, 3, 4, 5, 6, 7, 8, 9, 10, 11, 12] 7 0 hW hA hl rfl rfl rfl rfl ⟨by decide, by decide⟩ ⟨by decide, by decide⟩ (Nat.le_of_ble_eq_true rfl) rfl (fun _ => rfl) (fun _ => rfl) (fun r u H locs hp hW => ?_)
                      cases hp
                      have hW : WD k A s.heap (wModel k a_th th_j85) H locs := hW
                      refine lv_i2l (v := (r_25).toInt64) E.hx E.hb dX9_next_127 rfl ?_
                      refine lv_ladd E.hx E.hb dX9_next_128 ?_
                      refine lv_ldc2 E.hx E.hb E.ho (E.w tm_1858 rfl) dX9_next_129 ?_
                      refine lv_lsub E.hx E.hb dX9_next_132 ?_
                      obtain ⟨th_26, eth_26, hf⟩ := oL hf
                      refine pf_X9_352 (ws2 := wModel k a_th th_26) E hW 0 rfl rfl rfl (Nat.le_of_ble_eq_true rfl) dX9_next_133 (by rw [eth_26]; rfl) (fun H locs hW => ?_)
                      exact J_136 th_26 _ _ _ hW (lv_sub hl [0] rfl) hf
              exact L_85 n th_19 _ _ _ hW (lv_sub hl [1] rfl) hf
          · have hf := oT hc hf
            refine k_aload_n E hl 1 dX9_next_61 rfl ?_
            refine lv_iconst (v := (0 : Int32)) E.hx E.hb dX9_next_62 ic_0 ?_
            obtain ⟨th_27, eth_27, hf⟩ := oL hf
            refine pf_X9_346 (ws2 := wModel k a_th th_27) E hW 0 rfl rfl rfl (Nat.le_of_ble_eq_true rfl) dX9_next_63 (by rw [eth_27]; rfl) (fun H locs hW => ?_)
            refine lv_goto (tgt := 304) E.hx E.hb dX9_next_66 (by decide) ?_
            exact hret th_27 _ _ _ _ _ _ hW (Option.some.inj hf).symm (by decide) (by decide) dX9_next_304
        refine lv_icmp_ne (tgt := 39) E.hx E.hb dX9_next_23 (by decide) (fun hc => ?_) (fun hc => ?_)
        · have hf := oF hc hf
          exact J_39 th_j0 _ _ _ hW (lv_sub hl [0] rfl) hf
        · have hf := oT hc hf
          exact J_26 th_j0 _ _ _ hW (lv_sub hl [0] rfl) hf
  exact L_0 n th_0 _ _ _ hW (lv_sub hl [0] rfl) hf
def f_X9_goOn (n : Nat) (th_0 : OS) : Option (OS) :=
  bnd (f_X9_fine_ n th_0) (fun (r_1 : Int32) =>
  if r_1 = 0 then (
  some th_0) else (
  bnd (f_X9_next n th_0) (fun (th_2 : OS) =>
  some th_2)))
set_option maxHeartbeats 4000000 in
set_option maxRecDepth 100000 in
theorem c_X9_goOn (n : Nat) (l : Launch) (k : KT) (hE : EH k) (a_th : Nat → Nat) (th_0 : OS) (res : (OS)) (hf : f_X9_goOn n th_0 = some res) : CG l k yX9_goOn cX9_goOn 1 none 6 0 0 134 [.ref (a_th 0)] (wModel k a_th th_0) (Qv k (fun u : OS => wModel k a_th u) (fun u : OS => res = u)) := by
  refine CG.ofV (by decide) (Nat.le_of_ble_eq_true rfl) (fun p e s m args below meth c A Q E hnm hW hA hret ls hl => ?_)
  have hl : lv_has ls 1 [(0, .ref (a_th 0))] := hl
  unfold f_X9_goOn at hf
  refine k_aload_n E hl 0 dX9_goOn_0 rfl ?_
  obtain ⟨r_1, hg, hf⟩ := ob hf
  refine k_callVi (As := []) (rest := []) (ws2 := fun u => wModel k a_th th_0) (c_X9_fine_ n l k a_th th_0 r_1 hg) E vl_X9_386 dX9_goOn_1 rfl [0, 1, 2, 3, 4, 5, 6, 7, 8, 9, 10, 11, 12] 7 0 hW hA hl rfl rfl rfl rfl ⟨by decide, by decide⟩ ⟨by decide, by decide⟩ (Nat.le_of_ble_eq_true rfl) rfl (fun _ => rfl) (fun _ => rfl) (fun r u H locs hp hW => ?_)
  cases hp
  have hW : WD k A s.heap (wModel k a_th th_0) H locs := hW
  refine lv_if_eq (tgt := 11) E.hx E.hb dX9_goOn_4 (by decide) (fun hc => ?_) (fun hc => ?_)
  · have hf := oT hc hf
    exact hret th_0 _ _ _ _ _ _ hW (Option.some.inj hf).symm (by decide) (by decide) dX9_goOn_11
  · have hf := oF hc hf
    refine k_aload_n E hl 0 dX9_goOn_7 rfl ?_
    obtain ⟨th_2, hg, hf⟩ := ob hf
    refine k_callVv (As := []) (rest := []) (ws2 := fun u => wModel k a_th (u)) (c_X9_next n l k hE a_th th_0 th_2 hg) E vl_X9_390 dX9_goOn_8 rfl [0, 1, 2, 3, 4, 5, 6, 7, 8, 9, 10, 11, 12] 7 0 hW hA hl rfl rfl rfl rfl ⟨by decide, by decide⟩ ⟨by decide, by decide⟩ (Nat.le_of_ble_eq_true rfl) rfl (fun _ => rfl) (fun _ => rfl) (fun u H locs hp hW => ?_)
    cases hp
    have hW : WD k A s.heap (wModel k a_th th_2) H locs := hW
    exact hret th_2 _ _ _ _ _ _ hW (Option.some.inj hf).symm (by decide) (by decide) dX9_goOn_11
def j_X9_number_42 (n : Nat) (th_j42 : OS) : Option (OS × Int32) :=
  Let (th_j42.1 29) (fun v3_3 : Int32 =>
  bnd (f_X9_goOn n th_j42) (fun (th_4 : OS) =>
  some (th_4, v3_3)))
def j_X9_number_14 (n : Nat) (v1_0 : Int32) (v2_0 : Int32) (th_j14 : OS) (s1_j14 : Int32) : Option (OS × Int32) :=
  bnd (f_X9_needs n th_j14 s1_j14 (1 : Int32)) (fun (th_1 : OS) =>
  bnd (f_X9_fine_ n th_1) (fun (r_2 : Int32) =>
  if r_2 = 0 then (
  j_X9_number_42 n th_1) else (
  bnd (f_X9_isIn n (((th_1.1 29)).toInt64) ((v1_0).toInt64) ((v2_0).toInt64)) (fun (r_5 : Int32) =>
  bnd (f_X9_needs n th_1 r_5 (2 : Int32)) (fun (th_6 : OS) =>
  j_X9_number_42 n th_6)))))
def f_X9_number (n : Nat) (th_0 : OS) (v1_0 : Int32) (v2_0 : Int32) : Option (OS × Int32) :=
  if (th_0.1 27) = (2 : Int32) then (
  j_X9_number_14 n v1_0 v2_0 th_0 (1 : Int32)) else (
  j_X9_number_14 n v1_0 v2_0 th_0 (0 : Int32))
set_option maxHeartbeats 4000000 in
set_option maxRecDepth 100000 in
theorem c_X9_number (n : Nat) (l : Launch) (k : KT) (hE : EH k) (a_th : Nat → Nat) (th_0 : OS) (v1_0 : Int32) (v2_0 : Int32) (res : (OS × Int32)) (hf : f_X9_number n th_0 v1_0 v2_0 = some res) : CG l k yX9_number cX9_number 4 (some .int) 7 0 0 154 [.ref (a_th 0), .int v1_0, .int v2_0] (wModel k a_th th_0) (Qi k (fun u : OS => wModel k a_th u) (fun (r : Int32) (u : OS) => res = (u, r))) := by
  refine CG.ofI (by decide) (Nat.le_of_ble_eq_true rfl) (fun p e s m args below meth c A Q E hnm hW hA hret ls hl => ?_)
  have hl : lv_has ls 4 [(0, .ref (a_th 0)), (1, .int v1_0), (2, .int v2_0)] := hl
  unfold f_X9_number at hf
  refine k_aload_n E hl 0 dX9_number_0 rfl ?_
  refine k_aload_n E hl 0 dX9_number_1 rfl ?_
  refine gf_X9_346 E hW 0 rfl rfl dX9_number_2 ?_
  refine lv_iconst (v := (2 : Int32)) E.hx E.hb dX9_number_5 ic_2 ?_
  have J_14 : ∀ (th_j14 : OS) (s1_j14 : Int32) (H : Heap) (locs : List Loc) (ls : Array Slot) (hW : WD k A s.heap (wModel k a_th th_j14) H locs) (hl : lv_has ls 4 [(0, .ref (a_th 0)), (1, .int v1_0), (2, .int v2_0)]) (hf : j_X9_number_14 n v1_0 v2_0 th_j14 s1_j14 = some res), W p l e { frames := 7, cells := 0, slots := 0, locals := 154 } s m args below meth c H locs 0 0 Q (F0 m 14 ls [.int s1_j14, .ref (a_th 0)]) := by
    intro th_j14 s1_j14 H locs ls hW hl hf
    unfold j_X9_number_14 at hf
    refine lv_iconst (v := (1 : Int32)) E.hx E.hb dX9_number_14 ic_1 ?_
    obtain ⟨th_1, hg, hf⟩ := ob hf
    refine k_callVv (As := [.int s1_j14, .int (1 : Int32)]) (rest := []) (ws2 := fun u => wModel k a_th (u)) (c_X9_needs n l k a_th th_j14 s1_j14 (1 : Int32) th_1 hg) E vl_X9_393 dX9_number_15 rfl [0, 1, 2, 3, 4, 5, 6, 7, 8, 9, 10, 11, 12] 7 0 hW hA hl rfl rfl rfl rfl ⟨by decide, by decide⟩ ⟨by decide, by decide⟩ (Nat.le_of_ble_eq_true rfl) rfl (fun _ => rfl) (fun _ => rfl) (fun u H locs hp hW => ?_)
    cases hp
    have hW : WD k A s.heap (wModel k a_th th_1) H locs := hW
    refine k_aload_n E hl 0 dX9_number_18 rfl ?_
    obtain ⟨r_2, hg, hf⟩ := ob hf
    refine k_callVi (As := []) (rest := []) (ws2 := fun u => wModel k a_th th_1) (c_X9_fine_ n l k a_th th_1 r_2 hg) E vl_X9_386 dX9_number_19 rfl [0, 1, 2, 3, 4, 5, 6, 7, 8, 9, 10, 11, 12] 7 0 hW hA hl rfl rfl rfl rfl ⟨by decide, by decide⟩ ⟨by decide, by decide⟩ (Nat.le_of_ble_eq_true rfl) rfl (fun _ => rfl) (fun _ => rfl) (fun r u H locs hp hW => ?_)
    cases hp
    have hW : WD k A s.heap (wModel k a_th th_1) H locs := hW
    have J_42 : ∀ (th_j42 : OS) (H : Heap) (locs : List Loc) (ls : Array Slot) (hW : WD k A s.heap (wModel k a_th th_j42) H locs) (hl : lv_has ls 4 [(0, .ref (a_th 0))]) (hf : j_X9_number_42 n  th_j42 = some res), W p l e { frames := 7, cells := 0, slots := 0, locals := 154 } s m args below meth c H locs 0 0 Q (F0 m 42 ls []) := by
      intro th_j42 H locs ls hW hl hf
      unfold j_X9_number_42 at hf
      refine k_aload_n E hl 0 dX9_number_42 rfl ?_
      refine gf_X9_370 E hW 0 rfl rfl dX9_number_43 ?_
      obtain ⟨v3_3, ev3_3, hf⟩ := oL hf
      refine k_istore_n (lv' := [(3, .int v3_3), (0, .ref (a_th 0))]) E ev3_3 hl dX9_number_46 rfl (by decide) rfl (fun ls hl => ?_)
      refine k_aload_n E hl 1 dX9_number_47 rfl ?_
      obtain ⟨th_4, hg, hf⟩ := ob hf
      refine k_callVv (As := []) (rest := []) (ws2 := fun u => wModel k a_th (u)) (c_X9_goOn n l k hE a_th th_j42 th_4 hg) E vl_X9_397 dX9_number_48 rfl [0, 1, 2, 3, 4, 5, 6, 7, 8, 9, 10, 11, 12] 7 0 hW hA hl rfl rfl rfl rfl ⟨by decide, by decide⟩ ⟨by decide, by decide⟩ (Nat.le_of_ble_eq_true rfl) rfl (fun _ => rfl) (fun _ => rfl) (fun u H locs hp hW => ?_)
      cases hp
      have hW : WD k A s.heap (wModel k a_th th_4) H locs := hW
      refine k_iload_n E hl 0 dX9_number_51 rfl ?_
      exact hret _ th_4 _ _ _ _ _ _ hW (Option.some.inj hf).symm rfl (by decide) (by decide) dX9_number_52
    refine lv_if_eq (tgt := 42) E.hx E.hb dX9_number_22 (by decide) (fun hc => ?_) (fun hc => ?_)
    · have hf := oT hc hf
      exact J_42 th_1 _ _ _ hW (lv_sub hl [0] rfl) hf
    · have hf := oF hc hf
      refine k_aload_n E hl 0 dX9_number_25 rfl ?_
      refine k_aload_n E hl 0 dX9_number_26 rfl ?_
      refine gf_X9_370 E hW 0 rfl rfl dX9_number_27 ?_
      refine lv_i2l (v := ((th_1.1 29)).toInt64) E.hx E.hb dX9_number_30 rfl ?_
      refine k_iload_n E hl 1 dX9_number_31 rfl ?_
      refine lv_i2l (v := (v1_0).toInt64) E.hx E.hb dX9_number_32 rfl ?_
      refine k_iload_n E hl 2 dX9_number_33 rfl ?_
      refine lv_i2l (v := (v2_0).toInt64) E.hx E.hb dX9_number_34 rfl ?_
      obtain ⟨r_5, hg, hf⟩ := ob hf
      refine k_callSi (As := [.long (((th_1.1 29)).toInt64), .long ((v1_0).toInt64), .long ((v2_0).toInt64)]) (rest := [.ref (a_th 0)]) (ws2 := fun u => wModel k a_th th_1) (c_X9_isIn n l k (((th_1.1 29)).toInt64) ((v1_0).toInt64) ((v2_0).toInt64) r_5 hg) E sl_X9_92 dX9_number_35 rfl [] hW hA hl rfl rfl ⟨by decide, by decide⟩ ⟨by decide, by decide⟩ (Nat.le_of_ble_eq_true rfl) rfl (fun _ => rfl) (fun _ => rfl) (fun r u H locs hp hW => ?_)
      cases hp
      have hW : WD k A s.heap (wModel k a_th th_1) H locs := hW
      refine lv_iconst (v := (2 : Int32)) E.hx E.hb dX9_number_38 ic_2 ?_
      obtain ⟨th_6, hg, hf⟩ := ob hf
      refine k_callVv (As := [.int r_5, .int (2 : Int32)]) (rest := []) (ws2 := fun u => wModel k a_th (u)) (c_X9_needs n l k a_th th_1 r_5 (2 : Int32) th_6 hg) E vl_X9_393 dX9_number_39 rfl [0, 1, 2, 3, 4, 5, 6, 7, 8, 9, 10, 11, 12] 7 0 hW hA hl rfl rfl rfl rfl ⟨by decide, by decide⟩ ⟨by decide, by decide⟩ (Nat.le_of_ble_eq_true rfl) rfl (fun _ => rfl) (fun _ => rfl) (fun u H locs hp hW => ?_)
      cases hp
      have hW : WD k A s.heap (wModel k a_th th_6) H locs := hW
      exact J_42 th_6 _ _ _ hW (lv_sub hl [0] rfl) hf
  refine lv_icmp_ne (tgt := 13) E.hx E.hb dX9_number_6 (by decide) (fun hc => ?_) (fun hc => ?_)
  · have hf := oF hc hf
    refine lv_iconst (v := (0 : Int32)) E.hx E.hb dX9_number_13 ic_0 ?_
    exact J_14 th_0 (0 : Int32) _ _ _ hW (lv_sub hl [0, 1, 2] rfl) hf
  · have hf := oT hc hf
    refine lv_iconst (v := (1 : Int32)) E.hx E.hb dX9_number_9 ic_1 ?_
    refine lv_goto (tgt := 14) E.hx E.hb dX9_number_10 (by decide) ?_
    exact J_14 th_0 (1 : Int32) _ _ _ hW (lv_sub hl [0, 1, 2] rfl) hf
def j_X9_readsProcess_68 (n : Nat) (th_j68 : OS) : Option (OS) :=
  bnd (f_X9_fine_ n th_j68) (fun (r_6 : Int32) =>
  if r_6 = 0 then (
  some th_j68) else (
  gI 8 (th_j68.1 34) (Let (sL th_j68 38 (vp_updL (th_j68.2.2.1 38) (th_j68.1 34).toNatClampNeg (th_j68.2.2.2 30))) (fun th_7 : OS =>
  Let (sI th_7 34 ((th_7.1 34) + (1 : Int32))) (fun th_8 : OS =>
  bnd (f_X9_goOn n th_8) (fun (th_9 : OS) =>
  some th_9))))))
def j_X9_readsProcess_15 (n : Nat) (th_j15 : OS) (s1_j15 : Int32) : Option (OS) :=
  bnd (f_X9_needs n th_j15 s1_j15 (4 : Int32)) (fun (th_1 : OS) =>
  bnd (f_X9_goOn n th_1) (fun (th_2 : OS) =>
  bnd (f_X9_isName n th_2) (fun (r_3 : Int32) =>
  bnd (f_X9_needs n th_2 r_3 (1 : Int32)) (fun (th_4 : OS) =>
  bnd (f_X9_fine_ n th_4) (fun (r_5 : Int32) =>
  if r_5 = 0 then (
  j_X9_readsProcess_68 n th_4) else (
  bnd (f_X9_indexOf n 8 (th_4.2.2.1 38) (th_4.1 34) (th_4.2.2.2 30)) (fun (r_10 : Int32) =>
  if r_10 = (-1 : Int32) then (
  bnd (f_X9_needs n th_4 (1 : Int32) (3 : Int32)) (fun (th_12 : OS) =>
  j_X9_readsProcess_68 n th_12)) else (
  bnd (f_X9_needs n th_4 (0 : Int32) (3 : Int32)) (fun (th_11 : OS) =>
  j_X9_readsProcess_68 n th_11)))))))))
def f_X9_readsProcess (n : Nat) (th_0 : OS) : Option (OS) :=
  if (8 : Int32) ≤ (th_0.1 34) then (
  j_X9_readsProcess_15 n th_0 (0 : Int32)) else (
  j_X9_readsProcess_15 n th_0 (1 : Int32))
set_option maxHeartbeats 4000000 in
set_option maxRecDepth 100000 in
theorem c_X9_readsProcess (n : Nat) (l : Launch) (k : KT) (hE : EH k) (a_th : Nat → Nat) (th_0 : OS) (res : (OS)) (hf : f_X9_readsProcess n th_0 = some res) : CG l k yX9_readsProcess cX9_readsProcess 1 none 7 0 0 154 [.ref (a_th 0)] (wModel k a_th th_0) (Qv k (fun u : OS => wModel k a_th u) (fun u : OS => res = u)) := by
  refine CG.ofV (by decide) (Nat.le_of_ble_eq_true rfl) (fun p e s m args below meth c A Q E hnm hW hA hret ls hl => ?_)
  have hl : lv_has ls 1 [(0, .ref (a_th 0))] := hl
  unfold f_X9_readsProcess at hf
  refine k_aload_n E hl 0 dX9_readsProcess_0 rfl ?_
  refine k_aload_n E hl 0 dX9_readsProcess_1 rfl ?_
  refine gf_X9_314 E hW 0 rfl rfl dX9_readsProcess_2 ?_
  refine lv_bipush (v := (8 : Int32)) E.hx E.hb dX9_readsProcess_5 bp_8 ?_
  have J_15 : ∀ (th_j15 : OS) (s1_j15 : Int32) (H : Heap) (locs : List Loc) (ls : Array Slot) (hW : WD k A s.heap (wModel k a_th th_j15) H locs) (hl : lv_has ls 1 [(0, .ref (a_th 0))]) (hf : j_X9_readsProcess_15 n  th_j15 s1_j15 = some res), W p l e { frames := 7, cells := 0, slots := 0, locals := 154 } s m args below meth c H locs 0 0 Q (F0 m 15 ls [.int s1_j15, .ref (a_th 0)]) := by
    intro th_j15 s1_j15 H locs ls hW hl hf
    unfold j_X9_readsProcess_15 at hf
    refine lv_iconst (v := (4 : Int32)) E.hx E.hb dX9_readsProcess_15 ic_4 ?_
    obtain ⟨th_1, hg, hf⟩ := ob hf
    refine k_callVv (As := [.int s1_j15, .int (4 : Int32)]) (rest := []) (ws2 := fun u => wModel k a_th (u)) (c_X9_needs n l k a_th th_j15 s1_j15 (4 : Int32) th_1 hg) E vl_X9_393 dX9_readsProcess_16 rfl [0, 1, 2, 3, 4, 5, 6, 7, 8, 9, 10, 11, 12] 7 0 hW hA hl rfl rfl rfl rfl ⟨by decide, by decide⟩ ⟨by decide, by decide⟩ (Nat.le_of_ble_eq_true rfl) rfl (fun _ => rfl) (fun _ => rfl) (fun u H locs hp hW => ?_)
    cases hp
    have hW : WD k A s.heap (wModel k a_th th_1) H locs := hW
    refine k_aload_n E hl 0 dX9_readsProcess_19 rfl ?_
    obtain ⟨th_2, hg, hf⟩ := ob hf
    refine k_callVv (As := []) (rest := []) (ws2 := fun u => wModel k a_th (u)) (c_X9_goOn n l k hE a_th th_1 th_2 hg) E vl_X9_397 dX9_readsProcess_20 rfl [0, 1, 2, 3, 4, 5, 6, 7, 8, 9, 10, 11, 12] 7 0 hW hA hl rfl rfl rfl rfl ⟨by decide, by decide⟩ ⟨by decide, by decide⟩ (Nat.le_of_ble_eq_true rfl) rfl (fun _ => rfl) (fun _ => rfl) (fun u H locs hp hW => ?_)
    cases hp
    have hW : WD k A s.heap (wModel k a_th th_2) H locs := hW
    refine k_aload_n E hl 0 dX9_readsProcess_23 rfl ?_
    refine k_aload_n E hl 0 dX9_readsProcess_24 rfl ?_
    obtain ⟨r_3, hg, hf⟩ := ob hf
    refine k_callVi (As := []) (rest := [.ref (a_th 0)]) (ws2 := fun u => wModel k a_th th_2) (c_X9_isName n l k a_th th_2 r_3 hg) E vl_X9_400 dX9_readsProcess_25 rfl [0, 1, 2, 3, 4, 5, 6, 7, 8, 9, 10, 11, 12] 7 0 hW hA hl rfl rfl rfl rfl ⟨by decide, by decide⟩ ⟨by decide, by decide⟩ (Nat.le_of_ble_eq_true rfl) rfl (fun _ => rfl) (fun _ => rfl) (fun r u H locs hp hW => ?_)
    cases hp
    have hW : WD k A s.heap (wModel k a_th th_2) H locs := hW
    refine lv_iconst (v := (1 : Int32)) E.hx E.hb dX9_readsProcess_28 ic_1 ?_
    obtain ⟨th_4, hg, hf⟩ := ob hf
    refine k_callVv (As := [.int r_3, .int (1 : Int32)]) (rest := []) (ws2 := fun u => wModel k a_th (u)) (c_X9_needs n l k a_th th_2 r_3 (1 : Int32) th_4 hg) E vl_X9_393 dX9_readsProcess_29 rfl [0, 1, 2, 3, 4, 5, 6, 7, 8, 9, 10, 11, 12] 7 0 hW hA hl rfl rfl rfl rfl ⟨by decide, by decide⟩ ⟨by decide, by decide⟩ (Nat.le_of_ble_eq_true rfl) rfl (fun _ => rfl) (fun _ => rfl) (fun u H locs hp hW => ?_)
    cases hp
    have hW : WD k A s.heap (wModel k a_th th_4) H locs := hW
    refine k_aload_n E hl 0 dX9_readsProcess_32 rfl ?_
    obtain ⟨r_5, hg, hf⟩ := ob hf
    refine k_callVi (As := []) (rest := []) (ws2 := fun u => wModel k a_th th_4) (c_X9_fine_ n l k a_th th_4 r_5 hg) E vl_X9_386 dX9_readsProcess_33 rfl [0, 1, 2, 3, 4, 5, 6, 7, 8, 9, 10, 11, 12] 7 0 hW hA hl rfl rfl rfl rfl ⟨by decide, by decide⟩ ⟨by decide, by decide⟩ (Nat.le_of_ble_eq_true rfl) rfl (fun _ => rfl) (fun _ => rfl) (fun r u H locs hp hW => ?_)
    cases hp
    have hW : WD k A s.heap (wModel k a_th th_4) H locs := hW
    have J_68 : ∀ (th_j68 : OS) (H : Heap) (locs : List Loc) (ls : Array Slot) (hW : WD k A s.heap (wModel k a_th th_j68) H locs) (hl : lv_has ls 1 [(0, .ref (a_th 0))]) (hf : j_X9_readsProcess_68 n  th_j68 = some res), W p l e { frames := 7, cells := 0, slots := 0, locals := 154 } s m args below meth c H locs 0 0 Q (F0 m 68 ls []) := by
      intro th_j68 H locs ls hW hl hf
      unfold j_X9_readsProcess_68 at hf
      refine k_aload_n E hl 0 dX9_readsProcess_68 rfl ?_
      obtain ⟨r_6, hg, hf⟩ := ob hf
      refine k_callVi (As := []) (rest := []) (ws2 := fun u => wModel k a_th th_j68) (c_X9_fine_ n l k a_th th_j68 r_6 hg) E vl_X9_386 dX9_readsProcess_69 rfl [0, 1, 2, 3, 4, 5, 6, 7, 8, 9, 10, 11, 12] 7 0 hW hA hl rfl rfl rfl rfl ⟨by decide, by decide⟩ ⟨by decide, by decide⟩ (Nat.le_of_ble_eq_true rfl) rfl (fun _ => rfl) (fun _ => rfl) (fun r u H locs hp hW => ?_)
      cases hp
      have hW : WD k A s.heap (wModel k a_th th_j68) H locs := hW
      refine lv_if_ne (tgt := 76) E.hx E.hb dX9_readsProcess_72 (by decide) (fun hc => ?_) (fun hc => ?_)
      · have hf := oF hc hf
        refine k_aload_n E hl 0 dX9_readsProcess_76 rfl ?_
        refine gf_X9_52 E hW 0 rfl rfl dX9_readsProcess_77 ?_
        refine k_aload_n E hl 0 dX9_readsProcess_80 rfl ?_
        refine gf_X9_314 E hW 0 rfl rfl dX9_readsProcess_81 ?_
        refine k_aload_n E hl 0 dX9_readsProcess_84 rfl ?_
        refine gf_X9_352 E hW 0 rfl rfl dX9_readsProcess_85 ?_
        obtain ⟨hin, hf⟩ := oI hf
        obtain ⟨th_7, eth_7, hf⟩ := oL hf
        refine k_last (ws2 := wModel k a_th th_7) E hW 11 rfl hin dX9_readsProcess_88 (by rw [eth_7]; rfl) (fun H locs hW => ?_)
        refine k_aload_n E hl 0 dX9_readsProcess_89 rfl ?_
        refine k_aload_n E hl 0 dX9_readsProcess_90 rfl ?_
        refine gf_X9_314 E hW 0 rfl rfl dX9_readsProcess_91 ?_
        refine lv_iconst (v := (1 : Int32)) E.hx E.hb dX9_readsProcess_94 ic_1 ?_
        refine lv_iadd E.hx E.hb dX9_readsProcess_95 ?_
        obtain ⟨th_8, eth_8, hf⟩ := oL hf
        refine pf_X9_314 (ws2 := wModel k a_th th_8) E hW 0 rfl rfl rfl (Nat.le_of_ble_eq_true rfl) dX9_readsProcess_96 (by rw [eth_8]; rfl) (fun H locs hW => ?_)
        refine k_aload_n E hl 0 dX9_readsProcess_99 rfl ?_
        obtain ⟨th_9, hg, hf⟩ := ob hf
        refine k_callVv (As := []) (rest := []) (ws2 := fun u => wModel k a_th (u)) (c_X9_goOn n l k hE a_th th_8 th_9 hg) E vl_X9_397 dX9_readsProcess_100 rfl [0, 1, 2, 3, 4, 5, 6, 7, 8, 9, 10, 11, 12] 7 0 hW hA hl rfl rfl rfl rfl ⟨by decide, by decide⟩ ⟨by decide, by decide⟩ (Nat.le_of_ble_eq_true rfl) rfl (fun _ => rfl) (fun _ => rfl) (fun u H locs hp hW => ?_)
        cases hp
        have hW : WD k A s.heap (wModel k a_th th_9) H locs := hW
        exact hret th_9 _ _ _ _ _ _ hW (Option.some.inj hf).symm (by decide) (by decide) dX9_readsProcess_103
      · have hf := oT hc hf
        exact hret th_j68 _ _ _ _ _ _ hW (Option.some.inj hf).symm (by decide) (by decide) dX9_readsProcess_75
    refine lv_if_eq (tgt := 68) E.hx E.hb dX9_readsProcess_36 (by decide) (fun hc => ?_) (fun hc => ?_)
    · have hf := oT hc hf
      exact J_68 th_4 _ _ _ hW (lv_sub hl [0] rfl) hf
    · have hf := oF hc hf
      refine k_aload_n E hl 0 dX9_readsProcess_39 rfl ?_
      refine k_aload_n E hl 0 dX9_readsProcess_40 rfl ?_
      refine gf_X9_52 E hW 0 rfl rfl dX9_readsProcess_41 ?_
      refine k_aload_n E hl 0 dX9_readsProcess_44 rfl ?_
      refine gf_X9_314 E hW 0 rfl rfl dX9_readsProcess_45 ?_
      refine k_aload_n E hl 0 dX9_readsProcess_48 rfl ?_
      refine gf_X9_352 E hW 0 rfl rfl dX9_readsProcess_49 ?_
      obtain ⟨r_10, hg, hf⟩ := ob hf
      refine k_callSi (As := [.ref (a_th 11), .int (th_4.1 34), .long (th_4.2.2.2 30)]) (rest := [.ref (a_th 0)]) (ws2 := fun u => wModel k a_th th_4) (c_X9_indexOf n l k (fun j => a_th (11 + j)) 8 (th_4.2.2.1 38) (th_4.1 34) (th_4.2.2.2 30) r_10 hg) E sl_X9_403 dX9_readsProcess_52 rfl [11] hW hA hl rfl rfl ⟨by decide, by decide⟩ ⟨by decide, by decide⟩ (Nat.le_of_ble_eq_true rfl) rfl (fun _ => rfl) (fun _ => rfl) (fun r u H locs hp hW => ?_)
      cases hp
      have hW : WD k A s.heap (wModel k a_th th_4) H locs := hW
      refine lv_iconst (v := (-1 : Int32)) E.hx E.hb dX9_readsProcess_55 ic_m1 ?_
      refine lv_icmp_ne (tgt := 63) E.hx E.hb dX9_readsProcess_56 (by decide) (fun hc => ?_) (fun hc => ?_)
      · have hf := oF hc hf
        refine lv_iconst (v := (0 : Int32)) E.hx E.hb dX9_readsProcess_63 ic_0 ?_
        refine lv_iconst (v := (3 : Int32)) E.hx E.hb dX9_readsProcess_64 ic_3 ?_
        obtain ⟨th_11, hg, hf⟩ := ob hf
        refine k_callVv (As := [.int (0 : Int32), .int (3 : Int32)]) (rest := []) (ws2 := fun u => wModel k a_th (u)) (c_X9_needs n l k a_th th_4 (0 : Int32) (3 : Int32) th_11 hg) E vl_X9_393 dX9_readsProcess_65 rfl [0, 1, 2, 3, 4, 5, 6, 7, 8, 9, 10, 11, 12] 7 0 hW hA hl rfl rfl rfl rfl ⟨by decide, by decide⟩ ⟨by decide, by decide⟩ (Nat.le_of_ble_eq_true rfl) rfl (fun _ => rfl) (fun _ => rfl) (fun u H locs hp hW => ?_)
        cases hp
        have hW : WD k A s.heap (wModel k a_th th_11) H locs := hW
        exact J_68 th_11 _ _ _ hW (lv_sub hl [0] rfl) hf
      · have hf := oT hc hf
        refine lv_iconst (v := (1 : Int32)) E.hx E.hb dX9_readsProcess_59 ic_1 ?_
        refine lv_goto (tgt := 64) E.hx E.hb dX9_readsProcess_60 (by decide) ?_
        refine lv_iconst (v := (3 : Int32)) E.hx E.hb dX9_readsProcess_64 ic_3 ?_
        obtain ⟨th_12, hg, hf⟩ := ob hf
        refine k_callVv (As := [.int (1 : Int32), .int (3 : Int32)]) (rest := []) (ws2 := fun u => wModel k a_th (u)) (c_X9_needs n l k a_th th_4 (1 : Int32) (3 : Int32) th_12 hg) E vl_X9_393 dX9_readsProcess_65 rfl [0, 1, 2, 3, 4, 5, 6, 7, 8, 9, 10, 11, 12] 7 0 hW hA hl rfl rfl rfl rfl ⟨by decide, by decide⟩ ⟨by decide, by decide⟩ (Nat.le_of_ble_eq_true rfl) rfl (fun _ => rfl) (fun _ => rfl) (fun u H locs hp hW => ?_)
        cases hp
        have hW : WD k A s.heap (wModel k a_th th_12) H locs := hW
        exact J_68 th_12 _ _ _ hW (lv_sub hl [0] rfl) hf
  refine lv_icmp_ge (tgt := 14) E.hx E.hb dX9_readsProcess_7 (by decide) (fun hc => ?_) (fun hc => ?_)
  · have hf := oT hc hf
    refine lv_iconst (v := (0 : Int32)) E.hx E.hb dX9_readsProcess_14 ic_0 ?_
    exact J_15 th_0 (0 : Int32) _ _ _ hW (lv_sub hl [0] rfl) hf
  · have hf := oF hc hf
    refine lv_iconst (v := (1 : Int32)) E.hx E.hb dX9_readsProcess_10 ic_1 ?_
    refine lv_goto (tgt := 15) E.hx E.hb dX9_readsProcess_11 (by decide) ?_
    exact J_15 th_0 (1 : Int32) _ _ _ hW (lv_sub hl [0] rfl) hf
def j_X9_readsOwner_43 (n : Nat) (th_j43 : OS) (w1_j43 : Int32) (s1_j43 : Int32) : Option (OS × Int32) :=
  bnd (f_X9_needs n th_j43 s1_j43 (3 : Int32)) (fun (th_6 : OS) =>
  bnd (f_X9_goOn n th_6) (fun (th_7 : OS) =>
  some (th_7, w1_j43)))
def f_X9_readsOwner (n : Nat) (th_0 : OS) : Option (OS × Int32) :=
  bnd (f_X9_isName n th_0) (fun (r_1 : Int32) =>
  bnd (f_X9_needs n th_0 r_1 (1 : Int32)) (fun (th_2 : OS) =>
  bnd (f_X9_indexOf n 8 (th_2.2.2.1 38) (th_2.1 34) (th_2.2.2.2 30)) (fun (r_3 : Int32) =>
  bnd (f_X9_fine_ n th_2) (fun (r_4 : Int32) =>
  if r_4 = 0 then (
  bnd (f_X9_goOn n th_2) (fun (th_5 : OS) =>
  some (th_5, r_3))) else (
  if r_3 = (-1 : Int32) then (
  j_X9_readsOwner_43 n th_2 r_3 (0 : Int32)) else (
  j_X9_readsOwner_43 n th_2 r_3 (1 : Int32)))))))
set_option maxHeartbeats 4000000 in
set_option maxRecDepth 100000 in
theorem c_X9_readsOwner (n : Nat) (l : Launch) (k : KT) (hE : EH k) (a_th : Nat → Nat) (th_0 : OS) (res : (OS × Int32)) (hf : f_X9_readsOwner n th_0 = some res) : CG l k yX9_readsOwner cX9_readsOwner 2 (some .int) 7 0 0 154 [.ref (a_th 0)] (wModel k a_th th_0) (Qi k (fun u : OS => wModel k a_th u) (fun (r : Int32) (u : OS) => res = (u, r))) := by
  refine CG.ofI (by decide) (Nat.le_of_ble_eq_true rfl) (fun p e s m args below meth c A Q E hnm hW hA hret ls hl => ?_)
  have hl : lv_has ls 2 [(0, .ref (a_th 0))] := hl
  unfold f_X9_readsOwner at hf
  refine k_aload_n E hl 0 dX9_readsOwner_0 rfl ?_
  refine k_aload_n E hl 0 dX9_readsOwner_1 rfl ?_
  obtain ⟨r_1, hg, hf⟩ := ob hf
  refine k_callVi (As := []) (rest := [.ref (a_th 0)]) (ws2 := fun u => wModel k a_th th_0) (c_X9_isName n l k a_th th_0 r_1 hg) E vl_X9_400 dX9_readsOwner_2 rfl [0, 1, 2, 3, 4, 5, 6, 7, 8, 9, 10, 11, 12] 7 0 hW hA hl rfl rfl rfl rfl ⟨by decide, by decide⟩ ⟨by decide, by decide⟩ (Nat.le_of_ble_eq_true rfl) rfl (fun _ => rfl) (fun _ => rfl) (fun r u H locs hp hW => ?_)
  cases hp
  have hW : WD k A s.heap (wModel k a_th th_0) H locs := hW
  refine lv_iconst (v := (1 : Int32)) E.hx E.hb dX9_readsOwner_5 ic_1 ?_
  obtain ⟨th_2, hg, hf⟩ := ob hf
  refine k_callVv (As := [.int r_1, .int (1 : Int32)]) (rest := []) (ws2 := fun u => wModel k a_th (u)) (c_X9_needs n l k a_th th_0 r_1 (1 : Int32) th_2 hg) E vl_X9_393 dX9_readsOwner_6 rfl [0, 1, 2, 3, 4, 5, 6, 7, 8, 9, 10, 11, 12] 7 0 hW hA hl rfl rfl rfl rfl ⟨by decide, by decide⟩ ⟨by decide, by decide⟩ (Nat.le_of_ble_eq_true rfl) rfl (fun _ => rfl) (fun _ => rfl) (fun u H locs hp hW => ?_)
  cases hp
  have hW : WD k A s.heap (wModel k a_th th_2) H locs := hW
  refine k_aload_n E hl 0 dX9_readsOwner_9 rfl ?_
  refine gf_X9_52 E hW 0 rfl rfl dX9_readsOwner_10 ?_
  refine k_aload_n E hl 0 dX9_readsOwner_13 rfl ?_
  refine gf_X9_314 E hW 0 rfl rfl dX9_readsOwner_14 ?_
  refine k_aload_n E hl 0 dX9_readsOwner_17 rfl ?_
  refine gf_X9_352 E hW 0 rfl rfl dX9_readsOwner_18 ?_
  obtain ⟨r_3, hg, hf⟩ := ob hf
  refine k_callSi (As := [.ref (a_th 11), .int (th_2.1 34), .long (th_2.2.2.2 30)]) (rest := []) (ws2 := fun u => wModel k a_th th_2) (c_X9_indexOf n l k (fun j => a_th (11 + j)) 8 (th_2.2.2.1 38) (th_2.1 34) (th_2.2.2.2 30) r_3 hg) E sl_X9_403 dX9_readsOwner_21 rfl [11] hW hA hl rfl rfl ⟨by decide, by decide⟩ ⟨by decide, by decide⟩ (Nat.le_of_ble_eq_true rfl) rfl (fun _ => rfl) (fun _ => rfl) (fun r u H locs hp hW => ?_)
  cases hp
  have hW : WD k A s.heap (wModel k a_th th_2) H locs := hW
  refine k_istore_n (lv' := [(1, .int r_3), (0, .ref (a_th 0))]) E rfl hl dX9_readsOwner_24 rfl (by decide) rfl (fun ls hl => ?_)
  refine k_aload_n E hl 1 dX9_readsOwner_25 rfl ?_
  obtain ⟨r_4, hg, hf⟩ := ob hf
  refine k_callVi (As := []) (rest := []) (ws2 := fun u => wModel k a_th th_2) (c_X9_fine_ n l k a_th th_2 r_4 hg) E vl_X9_386 dX9_readsOwner_26 rfl [0, 1, 2, 3, 4, 5, 6, 7, 8, 9, 10, 11, 12] 7 0 hW hA hl rfl rfl rfl rfl ⟨by decide, by decide⟩ ⟨by decide, by decide⟩ (Nat.le_of_ble_eq_true rfl) rfl (fun _ => rfl) (fun _ => rfl) (fun r u H locs hp hW => ?_)
  cases hp
  have hW : WD k A s.heap (wModel k a_th th_2) H locs := hW
  refine lv_if_eq (tgt := 47) E.hx E.hb dX9_readsOwner_29 (by decide) (fun hc => ?_) (fun hc => ?_)
  · have hf := oT hc hf
    refine k_aload_n E hl 1 dX9_readsOwner_47 rfl ?_
    obtain ⟨th_5, hg, hf⟩ := ob hf
    refine k_callVv (As := []) (rest := []) (ws2 := fun u => wModel k a_th (u)) (c_X9_goOn n l k hE a_th th_2 th_5 hg) E vl_X9_397 dX9_readsOwner_48 rfl [0, 1, 2, 3, 4, 5, 6, 7, 8, 9, 10, 11, 12] 7 0 hW hA hl rfl rfl rfl rfl ⟨by decide, by decide⟩ ⟨by decide, by decide⟩ (Nat.le_of_ble_eq_true rfl) rfl (fun _ => rfl) (fun _ => rfl) (fun u H locs hp hW => ?_)
    cases hp
    have hW : WD k A s.heap (wModel k a_th th_5) H locs := hW
    refine k_iload_n E hl 0 dX9_readsOwner_51 rfl ?_
    exact hret _ th_5 _ _ _ _ _ _ hW (Option.some.inj hf).symm rfl (by decide) (by decide) dX9_readsOwner_52
  · have hf := oF hc hf
    refine k_aload_n E hl 1 dX9_readsOwner_32 rfl ?_
    refine k_iload_n E hl 0 dX9_readsOwner_33 rfl ?_
    refine lv_iconst (v := (-1 : Int32)) E.hx E.hb dX9_readsOwner_34 ic_m1 ?_
    have J_43 : ∀ (th_j43 : OS) (w1_j43 : Int32) (s1_j43 : Int32) (H : Heap) (locs : List Loc) (ls : Array Slot) (hW : WD k A s.heap (wModel k a_th th_j43) H locs) (hl : lv_has ls 2 [(0, .ref (a_th 0)), (1, .int w1_j43)]) (hf : j_X9_readsOwner_43 n  th_j43 w1_j43 s1_j43 = some res), W p l e { frames := 7, cells := 0, slots := 0, locals := 154 } s m args below meth c H locs 0 0 Q (F0 m 43 ls [.int s1_j43, .ref (a_th 0)]) := by
      intro th_j43 w1_j43 s1_j43 H locs ls hW hl hf
      unfold j_X9_readsOwner_43 at hf
      refine lv_iconst (v := (3 : Int32)) E.hx E.hb dX9_readsOwner_43 ic_3 ?_
      obtain ⟨th_6, hg, hf⟩ := ob hf
      refine k_callVv (As := [.int s1_j43, .int (3 : Int32)]) (rest := []) (ws2 := fun u => wModel k a_th (u)) (c_X9_needs n l k a_th th_j43 s1_j43 (3 : Int32) th_6 hg) E vl_X9_393 dX9_readsOwner_44 rfl [0, 1, 2, 3, 4, 5, 6, 7, 8, 9, 10, 11, 12] 7 0 hW hA hl rfl rfl rfl rfl ⟨by decide, by decide⟩ ⟨by decide, by decide⟩ (Nat.le_of_ble_eq_true rfl) rfl (fun _ => rfl) (fun _ => rfl) (fun u H locs hp hW => ?_)
      cases hp
      have hW : WD k A s.heap (wModel k a_th th_6) H locs := hW
      refine k_aload_n E hl 0 dX9_readsOwner_47 rfl ?_
      obtain ⟨th_7, hg, hf⟩ := ob hf
      refine k_callVv (As := []) (rest := []) (ws2 := fun u => wModel k a_th (u)) (c_X9_goOn n l k hE a_th th_6 th_7 hg) E vl_X9_397 dX9_readsOwner_48 rfl [0, 1, 2, 3, 4, 5, 6, 7, 8, 9, 10, 11, 12] 7 0 hW hA hl rfl rfl rfl rfl ⟨by decide, by decide⟩ ⟨by decide, by decide⟩ (Nat.le_of_ble_eq_true rfl) rfl (fun _ => rfl) (fun _ => rfl) (fun u H locs hp hW => ?_)
      cases hp
      have hW : WD k A s.heap (wModel k a_th th_7) H locs := hW
      refine k_iload_n E hl 1 dX9_readsOwner_51 rfl ?_
      exact hret _ th_7 _ _ _ _ _ _ hW (Option.some.inj hf).symm rfl (by decide) (by decide) dX9_readsOwner_52
    refine lv_icmp_eq (tgt := 42) E.hx E.hb dX9_readsOwner_35 (by decide) (fun hc => ?_) (fun hc => ?_)
    · have hf := oT hc hf
      refine lv_iconst (v := (0 : Int32)) E.hx E.hb dX9_readsOwner_42 ic_0 ?_
      exact J_43 th_2 r_3 (0 : Int32) _ _ _ hW (lv_sub hl [1, 0] rfl) hf
    · have hf := oF hc hf
      refine lv_iconst (v := (1 : Int32)) E.hx E.hb dX9_readsOwner_38 ic_1 ?_
      refine lv_goto (tgt := 43) E.hx E.hb dX9_readsOwner_39 (by decide) ?_
      exact J_43 th_2 r_3 (1 : Int32) _ _ _ hW (lv_sub hl [1, 0] rfl) hf
def j_X9_readsOrder_31 (n : Nat) (th_j31 : OS) (s1_j31 : Int32) : Option (OS) :=
  bnd (f_X9_needs n th_j31 s1_j31 (1 : Int32)) (fun (th_1 : OS) =>
  bnd (f_X9_fine_ n th_1) (fun (r_2 : Int32) =>
  if r_2 = 0 then (
  bnd (f_X9_goOn n th_1) (fun (th_3 : OS) =>
  some th_3)) else (
  gI 1846 (1 : Int32) (Let (sA th_1 10 (upd (th_1.2.1 10) (1 : Int32).toNatClampNeg ((th_1.1 28) - (8 : Int32)))) (fun th_4 : OS =>
  bnd (f_X9_goOn n th_4) (fun (th_5 : OS) =>
  some th_5))))))
def f_X9_readsOrder (n : Nat) (th_0 : OS) : Option (OS) :=
  if (th_0.1 27) = (1 : Int32) then (
  bnd (f_X9_isIn n (((th_0.1 28)).toInt64) (8 : Int64) (10 : Int64)) (fun (r_6 : Int32) =>
  if r_6 = 0 then (
  j_X9_readsOrder_31 n th_0 (0 : Int32)) else (
  j_X9_readsOrder_31 n th_0 (1 : Int32)))) else (
  j_X9_readsOrder_31 n th_0 (0 : Int32))
set_option maxHeartbeats 4000000 in
set_option maxRecDepth 100000 in
theorem c_X9_readsOrder (n : Nat) (l : Launch) (k : KT) (hE : EH k) (a_th : Nat → Nat) (th_0 : OS) (res : (OS)) (hf : f_X9_readsOrder n th_0 = some res) : CG l k yX9_readsOrder cX9_readsOrder 1 none 7 0 0 154 [.ref (a_th 0)] (wModel k a_th th_0) (Qv k (fun u : OS => wModel k a_th u) (fun u : OS => res = u)) := by
  refine CG.ofV (by decide) (Nat.le_of_ble_eq_true rfl) (fun p e s m args below meth c A Q E hnm hW hA hret ls hl => ?_)
  have hl : lv_has ls 1 [(0, .ref (a_th 0))] := hl
  unfold f_X9_readsOrder at hf
  refine k_aload_n E hl 0 dX9_readsOrder_0 rfl ?_
  refine k_aload_n E hl 0 dX9_readsOrder_1 rfl ?_
  refine gf_X9_346 E hW 0 rfl rfl dX9_readsOrder_2 ?_
  refine lv_iconst (v := (1 : Int32)) E.hx E.hb dX9_readsOrder_5 ic_1 ?_
  have J_31 : ∀ (th_j31 : OS) (s1_j31 : Int32) (H : Heap) (locs : List Loc) (ls : Array Slot) (hW : WD k A s.heap (wModel k a_th th_j31) H locs) (hl : lv_has ls 1 [(0, .ref (a_th 0))]) (hf : j_X9_readsOrder_31 n  th_j31 s1_j31 = some res), W p l e { frames := 7, cells := 0, slots := 0, locals := 154 } s m args below meth c H locs 0 0 Q (F0 m 31 ls [.int s1_j31, .ref (a_th 0)]) := by
    intro th_j31 s1_j31 H locs ls hW hl hf
    unfold j_X9_readsOrder_31 at hf
    refine lv_iconst (v := (1 : Int32)) E.hx E.hb dX9_readsOrder_31 ic_1 ?_
    obtain ⟨th_1, hg, hf⟩ := ob hf
    refine k_callVv (As := [.int s1_j31, .int (1 : Int32)]) (rest := []) (ws2 := fun u => wModel k a_th (u)) (c_X9_needs n l k a_th th_j31 s1_j31 (1 : Int32) th_1 hg) E vl_X9_393 dX9_readsOrder_32 rfl [0, 1, 2, 3, 4, 5, 6, 7, 8, 9, 10, 11, 12] 7 0 hW hA hl rfl rfl rfl rfl ⟨by decide, by decide⟩ ⟨by decide, by decide⟩ (Nat.le_of_ble_eq_true rfl) rfl (fun _ => rfl) (fun _ => rfl) (fun u H locs hp hW => ?_)
    cases hp
    have hW : WD k A s.heap (wModel k a_th th_1) H locs := hW
    refine k_aload_n E hl 0 dX9_readsOrder_35 rfl ?_
    obtain ⟨r_2, hg, hf⟩ := ob hf
    refine k_callVi (As := []) (rest := []) (ws2 := fun u => wModel k a_th th_1) (c_X9_fine_ n l k a_th th_1 r_2 hg) E vl_X9_386 dX9_readsOrder_36 rfl [0, 1, 2, 3, 4, 5, 6, 7, 8, 9, 10, 11, 12] 7 0 hW hA hl rfl rfl rfl rfl ⟨by decide, by decide⟩ ⟨by decide, by decide⟩ (Nat.le_of_ble_eq_true rfl) rfl (fun _ => rfl) (fun _ => rfl) (fun r u H locs hp hW => ?_)
    cases hp
    have hW : WD k A s.heap (wModel k a_th th_1) H locs := hW
    refine lv_if_eq (tgt := 55) E.hx E.hb dX9_readsOrder_39 (by decide) (fun hc => ?_) (fun hc => ?_)
    · have hf := oT hc hf
      refine k_aload_n E hl 0 dX9_readsOrder_55 rfl ?_
      obtain ⟨th_3, hg, hf⟩ := ob hf
      refine k_callVv (As := []) (rest := []) (ws2 := fun u => wModel k a_th (u)) (c_X9_goOn n l k hE a_th th_1 th_3 hg) E vl_X9_397 dX9_readsOrder_56 rfl [0, 1, 2, 3, 4, 5, 6, 7, 8, 9, 10, 11, 12] 7 0 hW hA hl rfl rfl rfl rfl ⟨by decide, by decide⟩ ⟨by decide, by decide⟩ (Nat.le_of_ble_eq_true rfl) rfl (fun _ => rfl) (fun _ => rfl) (fun u H locs hp hW => ?_)
      cases hp
      have hW : WD k A s.heap (wModel k a_th th_3) H locs := hW
      exact hret th_3 _ _ _ _ _ _ hW (Option.some.inj hf).symm (by decide) (by decide) dX9_readsOrder_59
    · have hf := oF hc hf
      refine k_aload_n E hl 0 dX9_readsOrder_42 rfl ?_
      refine gf_X9_17 E hW 0 rfl rfl dX9_readsOrder_43 ?_
      refine lv_iconst (v := (1 : Int32)) E.hx E.hb dX9_readsOrder_46 ic_1 ?_
      refine k_aload_n E hl 0 dX9_readsOrder_47 rfl ?_
      refine gf_X9_363 E hW 0 rfl rfl dX9_readsOrder_48 ?_
      refine lv_bipush (v := (8 : Int32)) E.hx E.hb dX9_readsOrder_51 bp_8 ?_
      refine lv_isub E.hx E.hb dX9_readsOrder_53 ?_
      obtain ⟨hin, hf⟩ := oI hf
      obtain ⟨th_4, eth_4, hf⟩ := oL hf
      refine k_iast (ws2 := wModel k a_th th_4) E hW 3 rfl hin dX9_readsOrder_54 (by rw [eth_4]; rfl) (fun H locs hW => ?_)
      refine k_aload_n E hl 0 dX9_readsOrder_55 rfl ?_
      obtain ⟨th_5, hg, hf⟩ := ob hf
      refine k_callVv (As := []) (rest := []) (ws2 := fun u => wModel k a_th (u)) (c_X9_goOn n l k hE a_th th_4 th_5 hg) E vl_X9_397 dX9_readsOrder_56 rfl [0, 1, 2, 3, 4, 5, 6, 7, 8, 9, 10, 11, 12] 7 0 hW hA hl rfl rfl rfl rfl ⟨by decide, by decide⟩ ⟨by decide, by decide⟩ (Nat.le_of_ble_eq_true rfl) rfl (fun _ => rfl) (fun _ => rfl) (fun u H locs hp hW => ?_)
      cases hp
      have hW : WD k A s.heap (wModel k a_th th_5) H locs := hW
      exact hret th_5 _ _ _ _ _ _ hW (Option.some.inj hf).symm (by decide) (by decide) dX9_readsOrder_59
  refine lv_icmp_ne (tgt := 30) E.hx E.hb dX9_readsOrder_6 (by decide) (fun hc => ?_) (fun hc => ?_)
  · have hf := oF hc hf
    refine lv_iconst (v := (0 : Int32)) E.hx E.hb dX9_readsOrder_30 ic_0 ?_
    exact J_31 th_0 (0 : Int32) _ _ _ hW (lv_sub hl [0] rfl) hf
  · have hf := oT hc hf
    refine k_aload_n E hl 0 dX9_readsOrder_9 rfl ?_
    refine gf_X9_363 E hW 0 rfl rfl dX9_readsOrder_10 ?_
    refine lv_i2l (v := ((th_0.1 28)).toInt64) E.hx E.hb dX9_readsOrder_13 rfl ?_
    refine lv_ldc2 E.hx E.hb E.ho (E.w tm_1923 rfl) dX9_readsOrder_14 ?_
    refine lv_ldc2 E.hx E.hb E.ho (E.w tm_1924 rfl) dX9_readsOrder_17 ?_
    obtain ⟨r_6, hg, hf⟩ := ob hf
    refine k_callSi (As := [.long (((th_0.1 28)).toInt64), .long (8 : Int64), .long (10 : Int64)]) (rest := [.ref (a_th 0)]) (ws2 := fun u => wModel k a_th th_0) (c_X9_isIn n l k (((th_0.1 28)).toInt64) (8 : Int64) (10 : Int64) r_6 hg) E sl_X9_92 dX9_readsOrder_20 rfl [] hW hA hl rfl rfl ⟨by decide, by decide⟩ ⟨by decide, by decide⟩ (Nat.le_of_ble_eq_true rfl) rfl (fun _ => rfl) (fun _ => rfl) (fun r u H locs hp hW => ?_)
    cases hp
    have hW : WD k A s.heap (wModel k a_th th_0) H locs := hW
    refine lv_if_eq (tgt := 30) E.hx E.hb dX9_readsOrder_23 (by decide) (fun hc => ?_) (fun hc => ?_)
    · have hf := oT hc hf
      refine lv_iconst (v := (0 : Int32)) E.hx E.hb dX9_readsOrder_30 ic_0 ?_
      exact J_31 th_0 (0 : Int32) _ _ _ hW (lv_sub hl [0] rfl) hf
    · have hf := oF hc hf
      refine lv_iconst (v := (1 : Int32)) E.hx E.hb dX9_readsOrder_26 ic_1 ?_
      refine lv_goto (tgt := 31) E.hx E.hb dX9_readsOrder_27 (by decide) ?_
      exact J_31 th_0 (1 : Int32) _ _ _ hW (lv_sub hl [0] rfl) hf
def j_X9_readsOnce_97 (n : Nat) (v1_0 : Int32) (th_j97 : OS) (w2_j97 : Int32) (s0_j97 : Int32) : Option (OS) :=
  bnd2 (f_X9_number n th_j97 w2_j97 s0_j97) (fun (th_5 : OS) (r_6 : Int32) =>
  gI 5 v1_0 (Let (sA th_5 37 (upd (th_5.2.1 37) v1_0.toNatClampNeg r_6)) (fun th_7 : OS =>
  some th_7)))
def j_X9_readsOnce_65 (n : Nat) (v1_0 : Int32) (th_j65 : OS) (s0_j65 : Int32) : Option (OS) :=
  if v1_0 = 0 then (
  j_X9_readsOnce_97 n v1_0 th_j65 s0_j65 (50 : Int32)) else (
  if v1_0 = (1 : Int32) then (
  j_X9_readsOnce_97 n v1_0 th_j65 s0_j65 (100 : Int32)) else (
  if v1_0 = (3 : Int32) then (
  j_X9_readsOnce_97 n v1_0 th_j65 s0_j65 (20 : Int32)) else (
  j_X9_readsOnce_97 n v1_0 th_j65 s0_j65 (99 : Int32))))
def j_X9_readsOnce_17 (n : Nat) (v1_0 : Int32) (th_j17 : OS) (s1_j17 : Int32) : Option (OS) :=
  bnd (f_X9_needs n th_j17 s1_j17 (3 : Int32)) (fun (th_1 : OS) =>
  Let (sI th_1 35 ((th_1.1 35) ||| ((1 : Int32) <<< (v1_0 &&& 31)))) (fun th_2 : OS =>
  bnd (f_X9_goOn n th_2) (fun (th_3 : OS) =>
  bnd (f_X9_fine_ n th_3) (fun (r_4 : Int32) =>
  if r_4 = 0 then (
  some th_3) else (
  if v1_0 = (5 : Int32) then (
  bnd (f_X9_readsOrder n th_3) (fun (th_8 : OS) =>
  some th_8)) else (
  if v1_0 = (4 : Int32) then (
  j_X9_readsOnce_65 n v1_0 th_3 (0 : Int32)) else (
  j_X9_readsOnce_65 n v1_0 th_3 (1 : Int32))))))))
def f_X9_readsOnce (n : Nat) (th_0 : OS) (v1_0 : Int32) : Option (OS) :=
  if (((th_0.1 35) >>> (v1_0 &&& 31)) &&& (1 : Int32)) = 0 then (
  j_X9_readsOnce_17 n v1_0 th_0 (1 : Int32)) else (
  j_X9_readsOnce_17 n v1_0 th_0 (0 : Int32))
set_option maxHeartbeats 4000000 in
set_option maxRecDepth 100000 in
theorem c_X9_readsOnce (n : Nat) (l : Launch) (k : KT) (hE : EH k) (a_th : Nat → Nat) (th_0 : OS) (v1_0 : Int32) (res : (OS)) (hf : f_X9_readsOnce n th_0 v1_0 = some res) : CG l k yX9_readsOnce cX9_readsOnce 4 none 8 0 0 177 [.ref (a_th 0), .int v1_0] (wModel k a_th th_0) (Qv k (fun u : OS => wModel k a_th u) (fun u : OS => res = u)) := by
  refine CG.ofV (by decide) (Nat.le_of_ble_eq_true rfl) (fun p e s m args below meth c A Q E hnm hW hA hret ls hl => ?_)
  have hl : lv_has ls 4 [(0, .ref (a_th 0)), (1, .int v1_0)] := hl
  unfold f_X9_readsOnce at hf
  refine k_aload_n E hl 0 dX9_readsOnce_0 rfl ?_
  refine k_aload_n E hl 0 dX9_readsOnce_1 rfl ?_
  refine gf_X9_317 E hW 0 rfl rfl dX9_readsOnce_2 ?_
  refine k_iload_n E hl 1 dX9_readsOnce_5 rfl ?_
  refine lv_ishr E.hx E.hb dX9_readsOnce_6 ?_
  refine lv_iconst (v := (1 : Int32)) E.hx E.hb dX9_readsOnce_7 ic_1 ?_
  refine lv_iand E.hx E.hb dX9_readsOnce_8 ?_
  have J_17 : ∀ (th_j17 : OS) (s1_j17 : Int32) (H : Heap) (locs : List Loc) (ls : Array Slot) (hW : WD k A s.heap (wModel k a_th th_j17) H locs) (hl : lv_has ls 4 [(0, .ref (a_th 0)), (1, .int v1_0)]) (hf : j_X9_readsOnce_17 n v1_0 th_j17 s1_j17 = some res), W p l e { frames := 8, cells := 0, slots := 0, locals := 177 } s m args below meth c H locs 0 0 Q (F0 m 17 ls [.int s1_j17, .ref (a_th 0)]) := by
    intro th_j17 s1_j17 H locs ls hW hl hf
    unfold j_X9_readsOnce_17 at hf
    refine lv_iconst (v := (3 : Int32)) E.hx E.hb dX9_readsOnce_17 ic_3 ?_
    obtain ⟨th_1, hg, hf⟩ := ob hf
    refine k_callVv (As := [.int s1_j17, .int (3 : Int32)]) (rest := []) (ws2 := fun u => wModel k a_th (u)) (c_X9_needs n l k a_th th_j17 s1_j17 (3 : Int32) th_1 hg) E vl_X9_393 dX9_readsOnce_18 rfl [0, 1, 2, 3, 4, 5, 6, 7, 8, 9, 10, 11, 12] 7 0 hW hA hl rfl rfl rfl rfl ⟨by decide, by decide⟩ ⟨by decide, by decide⟩ (Nat.le_of_ble_eq_true rfl) rfl (fun _ => rfl) (fun _ => rfl) (fun u H locs hp hW => ?_)
    cases hp
    have hW : WD k A s.heap (wModel k a_th th_1) H locs := hW
    refine k_aload_n E hl 0 dX9_readsOnce_21 rfl ?_
    refine k_aload_n E hl 0 dX9_readsOnce_22 rfl ?_
    refine gf_X9_317 E hW 0 rfl rfl dX9_readsOnce_23 ?_
    refine lv_iconst (v := (1 : Int32)) E.hx E.hb dX9_readsOnce_26 ic_1 ?_
    refine k_iload_n E hl 1 dX9_readsOnce_27 rfl ?_
    refine lv_ishl E.hx E.hb dX9_readsOnce_28 ?_
    refine lv_ior E.hx E.hb dX9_readsOnce_29 ?_
    obtain ⟨th_2, eth_2, hf⟩ := oL hf
    refine pf_X9_317 (ws2 := wModel k a_th th_2) E hW 0 rfl rfl rfl (Nat.le_of_ble_eq_true rfl) dX9_readsOnce_30 (by rw [eth_2]; rfl) (fun H locs hW => ?_)
    refine k_aload_n E hl 0 dX9_readsOnce_33 rfl ?_
    obtain ⟨th_3, hg, hf⟩ := ob hf
    refine k_callVv (As := []) (rest := []) (ws2 := fun u => wModel k a_th (u)) (c_X9_goOn n l k hE a_th th_2 th_3 hg) E vl_X9_397 dX9_readsOnce_34 rfl [0, 1, 2, 3, 4, 5, 6, 7, 8, 9, 10, 11, 12] 7 0 hW hA hl rfl rfl rfl rfl ⟨by decide, by decide⟩ ⟨by decide, by decide⟩ (Nat.le_of_ble_eq_true rfl) rfl (fun _ => rfl) (fun _ => rfl) (fun u H locs hp hW => ?_)
    cases hp
    have hW : WD k A s.heap (wModel k a_th th_3) H locs := hW
    refine k_aload_n E hl 0 dX9_readsOnce_37 rfl ?_
    obtain ⟨r_4, hg, hf⟩ := ob hf
    refine k_callVi (As := []) (rest := []) (ws2 := fun u => wModel k a_th th_3) (c_X9_fine_ n l k a_th th_3 r_4 hg) E vl_X9_386 dX9_readsOnce_38 rfl [0, 1, 2, 3, 4, 5, 6, 7, 8, 9, 10, 11, 12] 7 0 hW hA hl rfl rfl rfl rfl ⟨by decide, by decide⟩ ⟨by decide, by decide⟩ (Nat.le_of_ble_eq_true rfl) rfl (fun _ => rfl) (fun _ => rfl) (fun r u H locs hp hW => ?_)
    cases hp
    have hW : WD k A s.heap (wModel k a_th th_3) H locs := hW
    refine lv_if_ne (tgt := 45) E.hx E.hb dX9_readsOnce_41 (by decide) (fun hc => ?_) (fun hc => ?_)
    · have hf := oF hc hf
      refine k_iload_n E hl 1 dX9_readsOnce_45 rfl ?_
      refine lv_iconst (v := (5 : Int32)) E.hx E.hb dX9_readsOnce_46 ic_5 ?_
      refine lv_icmp_ne (tgt := 55) E.hx E.hb dX9_readsOnce_47 (by decide) (fun hc => ?_) (fun hc => ?_)
      · have hf := oF hc hf
        refine k_iload_n E hl 1 dX9_readsOnce_55 rfl ?_
        refine lv_iconst (v := (4 : Int32)) E.hx E.hb dX9_readsOnce_56 ic_4 ?_
        have J_65 : ∀ (th_j65 : OS) (s0_j65 : Int32) (H : Heap) (locs : List Loc) (ls : Array Slot) (hW : WD k A s.heap (wModel k a_th th_j65) H locs) (hl : lv_has ls 4 [(0, .ref (a_th 0)), (1, .int v1_0)]) (hf : j_X9_readsOnce_65 n v1_0 th_j65 s0_j65 = some res), W p l e { frames := 8, cells := 0, slots := 0, locals := 177 } s m args below meth c H locs 0 0 Q (F0 m 65 ls [.int s0_j65]) := by
          intro th_j65 s0_j65 H locs ls hW hl hf
          unfold j_X9_readsOnce_65 at hf
          refine k_istore_n (lv' := [(2, .int s0_j65), (0, .ref (a_th 0)), (1, .int v1_0)]) E rfl hl dX9_readsOnce_65 rfl (by decide) rfl (fun ls hl => ?_)
          refine k_iload_n E hl 2 dX9_readsOnce_66 rfl ?_
          have J_97 : ∀ (th_j97 : OS) (w2_j97 : Int32) (s0_j97 : Int32) (H : Heap) (locs : List Loc) (ls : Array Slot) (hW : WD k A s.heap (wModel k a_th th_j97) H locs) (hl : lv_has ls 4 [(0, .ref (a_th 0)), (1, .int v1_0), (2, .int w2_j97)]) (hf : j_X9_readsOnce_97 n v1_0 th_j97 w2_j97 s0_j97 = some res), W p l e { frames := 8, cells := 0, slots := 0, locals := 177 } s m args below meth c H locs 0 0 Q (F0 m 97 ls [.int s0_j97]) := by
            intro th_j97 w2_j97 s0_j97 H locs ls hW hl hf
            unfold j_X9_readsOnce_97 at hf
            refine k_istore_n (lv' := [(3, .int s0_j97), (0, .ref (a_th 0)), (1, .int v1_0), (2, .int w2_j97)]) E rfl hl dX9_readsOnce_97 rfl (by decide) rfl (fun ls hl => ?_)
            refine k_aload_n E hl 1 dX9_readsOnce_98 rfl ?_
            refine gf_X9_49 E hW 0 rfl rfl dX9_readsOnce_99 ?_
            refine k_iload_n E hl 2 dX9_readsOnce_102 rfl ?_
            refine k_aload_n E hl 1 dX9_readsOnce_103 rfl ?_
            refine k_iload_n E hl 3 dX9_readsOnce_104 rfl ?_
            refine k_iload_n E hl 0 dX9_readsOnce_105 rfl ?_
            obtain ⟨th_5, r_6, hg, hf⟩ := ob2 hf
            refine k_callVi (As := [.int w2_j97, .int s0_j97]) (rest := [.int v1_0, .ref (a_th 10)]) (ws2 := fun u => wModel k a_th (u)) (c_X9_number n l k hE a_th th_j97 w2_j97 s0_j97 (th_5, r_6) hg) E vl_X9_414 dX9_readsOnce_106 rfl [0, 1, 2, 3, 4, 5, 6, 7, 8, 9, 10, 11, 12] 7 0 hW hA hl rfl rfl rfl rfl ⟨by decide, by decide⟩ ⟨by decide, by decide⟩ (Nat.le_of_ble_eq_true rfl) rfl (fun _ => rfl) (fun _ => rfl) (fun r u H locs hp hW => ?_)
            cases hp
            have hW : WD k A s.heap (wModel k a_th th_5) H locs := hW
            obtain ⟨hin, hf⟩ := oI hf
            obtain ⟨th_7, eth_7, hf⟩ := oL hf
            refine k_iast (ws2 := wModel k a_th th_7) E hW 10 rfl hin dX9_readsOnce_109 (by rw [eth_7]; rfl) (fun H locs hW => ?_)
            exact hret th_7 _ _ _ _ _ _ hW (Option.some.inj hf).symm (by decide) (by decide) dX9_readsOnce_110
          refine lv_if_ne (tgt := 75) E.hx E.hb dX9_readsOnce_67 (by decide) (fun hc => ?_) (fun hc => ?_)
          · have hf := oF hc hf
            refine k_iload_n E hl 2 dX9_readsOnce_75 rfl ?_
            refine lv_iconst (v := (1 : Int32)) E.hx E.hb dX9_readsOnce_76 ic_1 ?_
            refine lv_icmp_ne (tgt := 85) E.hx E.hb dX9_readsOnce_77 (by decide) (fun hc => ?_) (fun hc => ?_)
            · have hf := oF hc hf
              refine k_iload_n E hl 2 dX9_readsOnce_85 rfl ?_
              refine lv_iconst (v := (3 : Int32)) E.hx E.hb dX9_readsOnce_86 ic_3 ?_
              refine lv_icmp_ne (tgt := 95) E.hx E.hb dX9_readsOnce_87 (by decide) (fun hc => ?_) (fun hc => ?_)
              · have hf := oF hc hf
                refine lv_bipush (v := (99 : Int32)) E.hx E.hb dX9_readsOnce_95 bp_99 ?_
                exact J_97 th_j65 s0_j65 (99 : Int32) _ _ _ hW (lv_sub hl [1, 2, 0] rfl) hf
              · have hf := oT hc hf
                refine lv_bipush (v := (20 : Int32)) E.hx E.hb dX9_readsOnce_90 bp_20 ?_
                refine lv_goto (tgt := 97) E.hx E.hb dX9_readsOnce_92 (by decide) ?_
                exact J_97 th_j65 s0_j65 (20 : Int32) _ _ _ hW (lv_sub hl [1, 2, 0] rfl) hf
            · have hf := oT hc hf
              refine lv_bipush (v := (100 : Int32)) E.hx E.hb dX9_readsOnce_80 bp_100 ?_
              refine lv_goto (tgt := 97) E.hx E.hb dX9_readsOnce_82 (by decide) ?_
              exact J_97 th_j65 s0_j65 (100 : Int32) _ _ _ hW (lv_sub hl [1, 2, 0] rfl) hf
          · have hf := oT hc hf
            refine lv_bipush (v := (50 : Int32)) E.hx E.hb dX9_readsOnce_70 bp_50 ?_
            refine lv_goto (tgt := 97) E.hx E.hb dX9_readsOnce_72 (by decide) ?_
            exact J_97 th_j65 s0_j65 (50 : Int32) _ _ _ hW (lv_sub hl [1, 2, 0] rfl) hf
        refine lv_icmp_ne (tgt := 64) E.hx E.hb dX9_readsOnce_57 (by decide) (fun hc => ?_) (fun hc => ?_)
        · have hf := oF hc hf
          refine lv_iconst (v := (1 : Int32)) E.hx E.hb dX9_readsOnce_64 ic_1 ?_
          exact J_65 th_3 (1 : Int32) _ _ _ hW (lv_sub hl [0, 1] rfl) hf
        · have hf := oT hc hf
          refine lv_iconst (v := (0 : Int32)) E.hx E.hb dX9_readsOnce_60 ic_0 ?_
          refine lv_goto (tgt := 65) E.hx E.hb dX9_readsOnce_61 (by decide) ?_
          exact J_65 th_3 (0 : Int32) _ _ _ hW (lv_sub hl [0, 1] rfl) hf
      · have hf := oT hc hf
        refine k_aload_n E hl 0 dX9_readsOnce_50 rfl ?_
        obtain ⟨th_8, hg, hf⟩ := ob hf
        refine k_callVv (As := []) (rest := []) (ws2 := fun u => wModel k a_th (u)) (c_X9_readsOrder n l k hE a_th th_3 th_8 hg) E vl_X9_411 dX9_readsOnce_51 rfl [0, 1, 2, 3, 4, 5, 6, 7, 8, 9, 10, 11, 12] 7 0 hW hA hl rfl rfl rfl rfl ⟨by decide, by decide⟩ ⟨by decide, by decide⟩ (Nat.le_of_ble_eq_true rfl) rfl (fun _ => rfl) (fun _ => rfl) (fun u H locs hp hW => ?_)
        cases hp
        have hW : WD k A s.heap (wModel k a_th th_8) H locs := hW
        exact hret th_8 _ _ _ _ _ _ hW (Option.some.inj hf).symm (by decide) (by decide) dX9_readsOnce_54
    · have hf := oT hc hf
      exact hret th_3 _ _ _ _ _ _ hW (Option.some.inj hf).symm (by decide) (by decide) dX9_readsOnce_44
  refine lv_if_ne (tgt := 16) E.hx E.hb dX9_readsOnce_9 (by decide) (fun hc => ?_) (fun hc => ?_)
  · have hf := oF hc hf
    refine lv_iconst (v := (0 : Int32)) E.hx E.hb dX9_readsOnce_16 ic_0 ?_
    exact J_17 th_0 (0 : Int32) _ _ _ hW (lv_sub hl [0, 1] rfl) hf
  · have hf := oT hc hf
    refine lv_iconst (v := (1 : Int32)) E.hx E.hb dX9_readsOnce_12 ic_1 ?_
    refine lv_goto (tgt := 17) E.hx E.hb dX9_readsOnce_13 (by decide) ?_
    exact J_17 th_0 (1 : Int32) _ _ _ hW (lv_sub hl [0, 1] rfl) hf
def j_X9_readsLoan_18 (n : Nat) (th_j18 : OS) (s1_j18 : Int32) : Option (OS) :=
  bnd (f_X9_needs n th_j18 s1_j18 (4 : Int32)) (fun (th_2 : OS) =>
  bnd (f_X9_goOn n th_2) (fun (th_3 : OS) =>
  bnd2 (f_X9_readsOwner n th_3) (fun (th_4 : OS) (r_5 : Int32) =>
  bnd2 (f_X9_number n th_4 (1 : Int32) (th_4.1 36)) (fun (th_6 : OS) (r_7 : Int32) =>
  bnd2 (f_X9_number n th_6 (1 : Int32) (99 : Int32)) (fun (th_8 : OS) (r_9 : Int32) =>
  bnd (f_X9_fine_ n th_8) (fun (r_10 : Int32) =>
  if r_10 = 0 then (
  some th_8) else (
  bnd (f_X9_lends n 1846 (th_8.2.1 10) r_5 r_7 r_9 (-1 : Int32)) (fun (y_11 : Nat → Int32) =>
  Let (sA th_8 10 y_11) (fun th_12 : OS =>
  Let (sI th_12 36 ((th_12.1 36) - r_7)) (fun th_13 : OS =>
  some th_13))))))))))
def f_X9_readsLoan (n : Nat) (th_0 : OS) : Option (OS) :=
  gI 1846 (6 : Int32) (Let ((th_0.2.1 10) (6 : Int32).toNatClampNeg) (fun x_1 : Int32 =>
  if (20 : Int32) ≤ x_1 then (
  j_X9_readsLoan_18 n th_0 (0 : Int32)) else (
  j_X9_readsLoan_18 n th_0 (1 : Int32))))
set_option maxHeartbeats 4000000 in
set_option maxRecDepth 100000 in
theorem c_X9_readsLoan (n : Nat) (l : Launch) (k : KT) (hE : EH k) (a_th : Nat → Nat) (th_0 : OS) (res : (OS)) (hf : f_X9_readsLoan n th_0 = some res) : CG l k yX9_readsLoan cX9_readsLoan 4 none 8 0 0 177 [.ref (a_th 0)] (wModel k a_th th_0) (Qv k (fun u : OS => wModel k a_th u) (fun u : OS => res = u)) := by
  refine CG.ofV (by decide) (Nat.le_of_ble_eq_true rfl) (fun p e s m args below meth c A Q E hnm hW hA hret ls hl => ?_)
  have hl : lv_has ls 4 [(0, .ref (a_th 0))] := hl
  unfold f_X9_readsLoan at hf
  refine k_aload_n E hl 0 dX9_readsLoan_0 rfl ?_
  refine k_aload_n E hl 0 dX9_readsLoan_1 rfl ?_
  refine gf_X9_17 E hW 0 rfl rfl dX9_readsLoan_2 ?_
  refine lv_bipush (v := (6 : Int32)) E.hx E.hb dX9_readsLoan_5 bp_6 ?_
  obtain ⟨hin, hf⟩ := oI hf
  obtain ⟨x_1, ex_1, hf⟩ := oL hf
  refine k_iald E hW 3 rfl hin dX9_readsLoan_7 ?_
  refine k_topi ex_1 ?_
  refine lv_bipush (v := (20 : Int32)) E.hx E.hb dX9_readsLoan_8 bp_20 ?_
  have J_18 : ∀ (th_j18 : OS) (s1_j18 : Int32) (H : Heap) (locs : List Loc) (ls : Array Slot) (hW : WD k A s.heap (wModel k a_th th_j18) H locs) (hl : lv_has ls 4 [(0, .ref (a_th 0))]) (hf : j_X9_readsLoan_18 n  th_j18 s1_j18 = some res), W p l e { frames := 8, cells := 0, slots := 0, locals := 177 } s m args below meth c H locs 0 0 Q (F0 m 18 ls [.int s1_j18, .ref (a_th 0)]) := by
    intro th_j18 s1_j18 H locs ls hW hl hf
    unfold j_X9_readsLoan_18 at hf
    refine lv_iconst (v := (4 : Int32)) E.hx E.hb dX9_readsLoan_18 ic_4 ?_
    obtain ⟨th_2, hg, hf⟩ := ob hf
    refine k_callVv (As := [.int s1_j18, .int (4 : Int32)]) (rest := []) (ws2 := fun u => wModel k a_th (u)) (c_X9_needs n l k a_th th_j18 s1_j18 (4 : Int32) th_2 hg) E vl_X9_393 dX9_readsLoan_19 rfl [0, 1, 2, 3, 4, 5, 6, 7, 8, 9, 10, 11, 12] 7 0 hW hA hl rfl rfl rfl rfl ⟨by decide, by decide⟩ ⟨by decide, by decide⟩ (Nat.le_of_ble_eq_true rfl) rfl (fun _ => rfl) (fun _ => rfl) (fun u H locs hp hW => ?_)
    cases hp
    have hW : WD k A s.heap (wModel k a_th th_2) H locs := hW
    refine k_aload_n E hl 0 dX9_readsLoan_22 rfl ?_
    obtain ⟨th_3, hg, hf⟩ := ob hf
    refine k_callVv (As := []) (rest := []) (ws2 := fun u => wModel k a_th (u)) (c_X9_goOn n l k hE a_th th_2 th_3 hg) E vl_X9_397 dX9_readsLoan_23 rfl [0, 1, 2, 3, 4, 5, 6, 7, 8, 9, 10, 11, 12] 7 0 hW hA hl rfl rfl rfl rfl ⟨by decide, by decide⟩ ⟨by decide, by decide⟩ (Nat.le_of_ble_eq_true rfl) rfl (fun _ => rfl) (fun _ => rfl) (fun u H locs hp hW => ?_)
    cases hp
    have hW : WD k A s.heap (wModel k a_th th_3) H locs := hW
    refine k_aload_n E hl 0 dX9_readsLoan_26 rfl ?_
    obtain ⟨th_4, r_5, hg, hf⟩ := ob2 hf
    refine k_callVi (As := []) (rest := []) (ws2 := fun u => wModel k a_th (u)) (c_X9_readsOwner n l k hE a_th th_3 (th_4, r_5) hg) E vl_X9_417 dX9_readsLoan_27 rfl [0, 1, 2, 3, 4, 5, 6, 7, 8, 9, 10, 11, 12] 7 0 hW hA hl rfl rfl rfl rfl ⟨by decide, by decide⟩ ⟨by decide, by decide⟩ (Nat.le_of_ble_eq_true rfl) rfl (fun _ => rfl) (fun _ => rfl) (fun r u H locs hp hW => ?_)
    cases hp
    have hW : WD k A s.heap (wModel k a_th th_4) H locs := hW
    refine k_istore_n (lv' := [(1, .int r_5), (0, .ref (a_th 0))]) E rfl hl dX9_readsLoan_30 rfl (by decide) rfl (fun ls hl => ?_)
    refine k_aload_n E hl 1 dX9_readsLoan_31 rfl ?_
    refine lv_iconst (v := (1 : Int32)) E.hx E.hb dX9_readsLoan_32 ic_1 ?_
    refine k_aload_n E hl 1 dX9_readsLoan_33 rfl ?_
    refine gf_X9_320 E hW 0 rfl rfl dX9_readsLoan_34 ?_
    obtain ⟨th_6, r_7, hg, hf⟩ := ob2 hf
    refine k_callVi (As := [.int (1 : Int32), .int (th_4.1 36)]) (rest := []) (ws2 := fun u => wModel k a_th (u)) (c_X9_number n l k hE a_th th_4 (1 : Int32) (th_4.1 36) (th_6, r_7) hg) E vl_X9_414 dX9_readsLoan_37 rfl [0, 1, 2, 3, 4, 5, 6, 7, 8, 9, 10, 11, 12] 7 0 hW hA hl rfl rfl rfl rfl ⟨by decide, by decide⟩ ⟨by decide, by decide⟩ (Nat.le_of_ble_eq_true rfl) rfl (fun _ => rfl) (fun _ => rfl) (fun r u H locs hp hW => ?_)
    cases hp
    have hW : WD k A s.heap (wModel k a_th th_6) H locs := hW
    refine k_istore_n (lv' := [(2, .int r_7), (1, .int r_5), (0, .ref (a_th 0))]) E rfl hl dX9_readsLoan_40 rfl (by decide) rfl (fun ls hl => ?_)
    refine k_aload_n E hl 2 dX9_readsLoan_41 rfl ?_
    refine lv_iconst (v := (1 : Int32)) E.hx E.hb dX9_readsLoan_42 ic_1 ?_
    refine lv_bipush (v := (99 : Int32)) E.hx E.hb dX9_readsLoan_43 bp_99 ?_
    obtain ⟨th_8, r_9, hg, hf⟩ := ob2 hf
    refine k_callVi (As := [.int (1 : Int32), .int (99 : Int32)]) (rest := []) (ws2 := fun u => wModel k a_th (u)) (c_X9_number n l k hE a_th th_6 (1 : Int32) (99 : Int32) (th_8, r_9) hg) E vl_X9_414 dX9_readsLoan_45 rfl [0, 1, 2, 3, 4, 5, 6, 7, 8, 9, 10, 11, 12] 7 0 hW hA hl rfl rfl rfl rfl ⟨by decide, by decide⟩ ⟨by decide, by decide⟩ (Nat.le_of_ble_eq_true rfl) rfl (fun _ => rfl) (fun _ => rfl) (fun r u H locs hp hW => ?_)
    cases hp
    have hW : WD k A s.heap (wModel k a_th th_8) H locs := hW
    refine k_istore_n (lv' := [(3, .int r_9), (2, .int r_7), (1, .int r_5), (0, .ref (a_th 0))]) E rfl hl dX9_readsLoan_48 rfl (by decide) rfl (fun ls hl => ?_)
    refine k_aload_n E hl 3 dX9_readsLoan_49 rfl ?_
    obtain ⟨r_10, hg, hf⟩ := ob hf
    refine k_callVi (As := []) (rest := []) (ws2 := fun u => wModel k a_th th_8) (c_X9_fine_ n l k a_th th_8 r_10 hg) E vl_X9_386 dX9_readsLoan_50 rfl [0, 1, 2, 3, 4, 5, 6, 7, 8, 9, 10, 11, 12] 7 0 hW hA hl rfl rfl rfl rfl ⟨by decide, by decide⟩ ⟨by decide, by decide⟩ (Nat.le_of_ble_eq_true rfl) rfl (fun _ => rfl) (fun _ => rfl) (fun r u H locs hp hW => ?_)
    cases hp
    have hW : WD k A s.heap (wModel k a_th th_8) H locs := hW
    refine lv_if_ne (tgt := 57) E.hx E.hb dX9_readsLoan_53 (by decide) (fun hc => ?_) (fun hc => ?_)
    · have hf := oF hc hf
      refine k_aload_n E hl 3 dX9_readsLoan_57 rfl ?_
      refine gf_X9_17 E hW 0 rfl rfl dX9_readsLoan_58 ?_
      refine k_iload_n E hl 2 dX9_readsLoan_61 rfl ?_
      refine k_iload_n E hl 1 dX9_readsLoan_62 rfl ?_
      refine k_iload_n E hl 0 dX9_readsLoan_63 rfl ?_
      refine lv_iconst (v := (-1 : Int32)) E.hx E.hb dX9_readsLoan_64 ic_m1 ?_
      obtain ⟨y_11, hg, hf⟩ := ob hf
      obtain ⟨th_12, eth_12, hf⟩ := oL hf
      refine k_callSv (As := [.ref (a_th 3), .int r_5, .int r_7, .int r_9, .int (-1 : Int32)]) (rest := []) (ws2 := fun u => wModel k a_th (sA th_8 10 (u))) (c_X9_lends n l k (fun j => a_th (3 + j)) 1846 (th_8.2.1 10) r_5 r_7 r_9 (-1 : Int32) y_11 hg) E sl_X9_159 dX9_readsLoan_65 rfl [3] hW hA hl rfl rfl ⟨by decide, by decide⟩ ⟨by decide, by decide⟩ (Nat.le_of_ble_eq_true rfl) rfl (fun _ => rfl) (fun _ => rfl) (fun u H locs hp hW => ?_)
      cases hp
      have hW : WD k A s.heap (wModel k a_th th_12) H locs := by rw [eth_12]; exact hW
      refine k_aload_n E hl 3 dX9_readsLoan_68 rfl ?_
      refine k_aload_n E hl 3 dX9_readsLoan_69 rfl ?_
      refine gf_X9_320 E hW 0 rfl rfl dX9_readsLoan_70 ?_
      refine k_iload_n E hl 1 dX9_readsLoan_73 rfl ?_
      refine lv_isub E.hx E.hb dX9_readsLoan_74 ?_
      obtain ⟨th_13, eth_13, hf⟩ := oL hf
      refine pf_X9_320 (ws2 := wModel k a_th th_13) E hW 0 rfl rfl rfl (Nat.le_of_ble_eq_true rfl) dX9_readsLoan_75 (by rw [eth_13]; rfl) (fun H locs hW => ?_)
      exact hret th_13 _ _ _ _ _ _ hW (Option.some.inj hf).symm (by decide) (by decide) dX9_readsLoan_78
    · have hf := oT hc hf
      exact hret th_8 _ _ _ _ _ _ hW (Option.some.inj hf).symm (by decide) (by decide) dX9_readsLoan_56
  refine lv_icmp_ge (tgt := 17) E.hx E.hb dX9_readsLoan_10 (by decide) (fun hc => ?_) (fun hc => ?_)
  · have hf := oT hc hf
    refine lv_iconst (v := (0 : Int32)) E.hx E.hb dX9_readsLoan_17 ic_0 ?_
    exact J_18 th_0 (0 : Int32) _ _ _ hW (lv_sub hl [0] rfl) hf
  · have hf := oF hc hf
    refine lv_iconst (v := (1 : Int32)) E.hx E.hb dX9_readsLoan_13 ic_1 ?_
    refine lv_goto (tgt := 18) E.hx E.hb dX9_readsLoan_14 (by decide) ?_
    exact J_18 th_0 (1 : Int32) _ _ _ hW (lv_sub hl [0] rfl) hf
def j_X9_readsAsk_18 (n : Nat) (th_j18 : OS) (s1_j18 : Int32) : Option (OS) :=
  bnd (f_X9_needs n th_j18 s1_j18 (4 : Int32)) (fun (th_2 : OS) =>
  bnd (f_X9_goOn n th_2) (fun (th_3 : OS) =>
  bnd2 (f_X9_readsOwner n th_3) (fun (th_4 : OS) (r_5 : Int32) =>
  bnd2 (f_X9_number n th_4 (1 : Int32) (th_4.1 33)) (fun (th_6 : OS) (r_7 : Int32) =>
  bnd2 (f_X9_number n th_6 (1 : Int32) (99 : Int32)) (fun (th_8 : OS) (r_9 : Int32) =>
  bnd (f_X9_fine_ n th_8) (fun (r_10 : Int32) =>
  if r_10 = 0 then (
  some th_8) else (
  bnd2 (f_X9_asks n 1846 (th_8.2.1 10) r_5 r_7 r_9) (fun (y_11 : Nat → Int32) (r_12 : Int32) =>
  Let (sA th_8 10 y_11) (fun th_13 : OS =>
  some th_13)))))))))
def f_X9_readsAsk (n : Nat) (th_0 : OS) : Option (OS) :=
  gI 1846 (7 : Int32) (Let ((th_0.2.1 10) (7 : Int32).toNatClampNeg) (fun x_1 : Int32 =>
  if (60 : Int32) ≤ x_1 then (
  j_X9_readsAsk_18 n th_0 (0 : Int32)) else (
  j_X9_readsAsk_18 n th_0 (1 : Int32))))
set_option maxHeartbeats 4000000 in
set_option maxRecDepth 100000 in
theorem c_X9_readsAsk (n : Nat) (l : Launch) (k : KT) (hE : EH k) (a_th : Nat → Nat) (th_0 : OS) (res : (OS)) (hf : f_X9_readsAsk n th_0 = some res) : CG l k yX9_readsAsk cX9_readsAsk 5 none 8 0 0 177 [.ref (a_th 0)] (wModel k a_th th_0) (Qv k (fun u : OS => wModel k a_th u) (fun u : OS => res = u)) := by
  refine CG.ofV (by decide) (Nat.le_of_ble_eq_true rfl) (fun p e s m args below meth c A Q E hnm hW hA hret ls hl => ?_)
  have hl : lv_has ls 5 [(0, .ref (a_th 0))] := hl
  unfold f_X9_readsAsk at hf
  refine k_aload_n E hl 0 dX9_readsAsk_0 rfl ?_
  refine k_aload_n E hl 0 dX9_readsAsk_1 rfl ?_
  refine gf_X9_17 E hW 0 rfl rfl dX9_readsAsk_2 ?_
  refine lv_bipush (v := (7 : Int32)) E.hx E.hb dX9_readsAsk_5 bp_7 ?_
  obtain ⟨hin, hf⟩ := oI hf
  obtain ⟨x_1, ex_1, hf⟩ := oL hf
  refine k_iald E hW 3 rfl hin dX9_readsAsk_7 ?_
  refine k_topi ex_1 ?_
  refine lv_bipush (v := (60 : Int32)) E.hx E.hb dX9_readsAsk_8 bp_60 ?_
  have J_18 : ∀ (th_j18 : OS) (s1_j18 : Int32) (H : Heap) (locs : List Loc) (ls : Array Slot) (hW : WD k A s.heap (wModel k a_th th_j18) H locs) (hl : lv_has ls 5 [(0, .ref (a_th 0))]) (hf : j_X9_readsAsk_18 n  th_j18 s1_j18 = some res), W p l e { frames := 8, cells := 0, slots := 0, locals := 177 } s m args below meth c H locs 0 0 Q (F0 m 18 ls [.int s1_j18, .ref (a_th 0)]) := by
    intro th_j18 s1_j18 H locs ls hW hl hf
    unfold j_X9_readsAsk_18 at hf
    refine lv_iconst (v := (4 : Int32)) E.hx E.hb dX9_readsAsk_18 ic_4 ?_
    obtain ⟨th_2, hg, hf⟩ := ob hf
    refine k_callVv (As := [.int s1_j18, .int (4 : Int32)]) (rest := []) (ws2 := fun u => wModel k a_th (u)) (c_X9_needs n l k a_th th_j18 s1_j18 (4 : Int32) th_2 hg) E vl_X9_393 dX9_readsAsk_19 rfl [0, 1, 2, 3, 4, 5, 6, 7, 8, 9, 10, 11, 12] 7 0 hW hA hl rfl rfl rfl rfl ⟨by decide, by decide⟩ ⟨by decide, by decide⟩ (Nat.le_of_ble_eq_true rfl) rfl (fun _ => rfl) (fun _ => rfl) (fun u H locs hp hW => ?_)
    cases hp
    have hW : WD k A s.heap (wModel k a_th th_2) H locs := hW
    refine k_aload_n E hl 0 dX9_readsAsk_22 rfl ?_
    obtain ⟨th_3, hg, hf⟩ := ob hf
    refine k_callVv (As := []) (rest := []) (ws2 := fun u => wModel k a_th (u)) (c_X9_goOn n l k hE a_th th_2 th_3 hg) E vl_X9_397 dX9_readsAsk_23 rfl [0, 1, 2, 3, 4, 5, 6, 7, 8, 9, 10, 11, 12] 7 0 hW hA hl rfl rfl rfl rfl ⟨by decide, by decide⟩ ⟨by decide, by decide⟩ (Nat.le_of_ble_eq_true rfl) rfl (fun _ => rfl) (fun _ => rfl) (fun u H locs hp hW => ?_)
    cases hp
    have hW : WD k A s.heap (wModel k a_th th_3) H locs := hW
    refine k_aload_n E hl 0 dX9_readsAsk_26 rfl ?_
    obtain ⟨th_4, r_5, hg, hf⟩ := ob2 hf
    refine k_callVi (As := []) (rest := []) (ws2 := fun u => wModel k a_th (u)) (c_X9_readsOwner n l k hE a_th th_3 (th_4, r_5) hg) E vl_X9_417 dX9_readsAsk_27 rfl [0, 1, 2, 3, 4, 5, 6, 7, 8, 9, 10, 11, 12] 7 0 hW hA hl rfl rfl rfl rfl ⟨by decide, by decide⟩ ⟨by decide, by decide⟩ (Nat.le_of_ble_eq_true rfl) rfl (fun _ => rfl) (fun _ => rfl) (fun r u H locs hp hW => ?_)
    cases hp
    have hW : WD k A s.heap (wModel k a_th th_4) H locs := hW
    refine k_istore_n (lv' := [(1, .int r_5), (0, .ref (a_th 0))]) E rfl hl dX9_readsAsk_30 rfl (by decide) rfl (fun ls hl => ?_)
    refine k_aload_n E hl 1 dX9_readsAsk_31 rfl ?_
    refine lv_iconst (v := (1 : Int32)) E.hx E.hb dX9_readsAsk_32 ic_1 ?_
    refine k_aload_n E hl 1 dX9_readsAsk_33 rfl ?_
    refine gf_X9_61 E hW 0 rfl rfl dX9_readsAsk_34 ?_
    obtain ⟨th_6, r_7, hg, hf⟩ := ob2 hf
    refine k_callVi (As := [.int (1 : Int32), .int (th_4.1 33)]) (rest := []) (ws2 := fun u => wModel k a_th (u)) (c_X9_number n l k hE a_th th_4 (1 : Int32) (th_4.1 33) (th_6, r_7) hg) E vl_X9_414 dX9_readsAsk_37 rfl [0, 1, 2, 3, 4, 5, 6, 7, 8, 9, 10, 11, 12] 7 0 hW hA hl rfl rfl rfl rfl ⟨by decide, by decide⟩ ⟨by decide, by decide⟩ (Nat.le_of_ble_eq_true rfl) rfl (fun _ => rfl) (fun _ => rfl) (fun r u H locs hp hW => ?_)
    cases hp
    have hW : WD k A s.heap (wModel k a_th th_6) H locs := hW
    refine k_istore_n (lv' := [(2, .int r_7), (1, .int r_5), (0, .ref (a_th 0))]) E rfl hl dX9_readsAsk_40 rfl (by decide) rfl (fun ls hl => ?_)
    refine k_aload_n E hl 2 dX9_readsAsk_41 rfl ?_
    refine lv_iconst (v := (1 : Int32)) E.hx E.hb dX9_readsAsk_42 ic_1 ?_
    refine lv_bipush (v := (99 : Int32)) E.hx E.hb dX9_readsAsk_43 bp_99 ?_
    obtain ⟨th_8, r_9, hg, hf⟩ := ob2 hf
    refine k_callVi (As := [.int (1 : Int32), .int (99 : Int32)]) (rest := []) (ws2 := fun u => wModel k a_th (u)) (c_X9_number n l k hE a_th th_6 (1 : Int32) (99 : Int32) (th_8, r_9) hg) E vl_X9_414 dX9_readsAsk_45 rfl [0, 1, 2, 3, 4, 5, 6, 7, 8, 9, 10, 11, 12] 7 0 hW hA hl rfl rfl rfl rfl ⟨by decide, by decide⟩ ⟨by decide, by decide⟩ (Nat.le_of_ble_eq_true rfl) rfl (fun _ => rfl) (fun _ => rfl) (fun r u H locs hp hW => ?_)
    cases hp
    have hW : WD k A s.heap (wModel k a_th th_8) H locs := hW
    refine k_istore_n (lv' := [(3, .int r_9), (2, .int r_7), (1, .int r_5), (0, .ref (a_th 0))]) E rfl hl dX9_readsAsk_48 rfl (by decide) rfl (fun ls hl => ?_)
    refine k_aload_n E hl 3 dX9_readsAsk_49 rfl ?_
    obtain ⟨r_10, hg, hf⟩ := ob hf
    refine k_callVi (As := []) (rest := []) (ws2 := fun u => wModel k a_th th_8) (c_X9_fine_ n l k a_th th_8 r_10 hg) E vl_X9_386 dX9_readsAsk_50 rfl [0, 1, 2, 3, 4, 5, 6, 7, 8, 9, 10, 11, 12] 7 0 hW hA hl rfl rfl rfl rfl ⟨by decide, by decide⟩ ⟨by decide, by decide⟩ (Nat.le_of_ble_eq_true rfl) rfl (fun _ => rfl) (fun _ => rfl) (fun r u H locs hp hW => ?_)
    cases hp
    have hW : WD k A s.heap (wModel k a_th th_8) H locs := hW
    refine lv_if_ne (tgt := 57) E.hx E.hb dX9_readsAsk_53 (by decide) (fun hc => ?_) (fun hc => ?_)
    · have hf := oF hc hf
      refine k_aload_n E hl 3 dX9_readsAsk_57 rfl ?_
      refine gf_X9_17 E hW 0 rfl rfl dX9_readsAsk_58 ?_
      refine k_iload_n E hl 2 dX9_readsAsk_61 rfl ?_
      refine k_iload_n E hl 1 dX9_readsAsk_62 rfl ?_
      refine k_iload_n E hl 0 dX9_readsAsk_63 rfl ?_
      obtain ⟨y_11, r_12, hg, hf⟩ := ob2 hf
      obtain ⟨th_13, eth_13, hf⟩ := oL hf
      refine k_callSi (As := [.ref (a_th 3), .int r_5, .int r_7, .int r_9]) (rest := []) (ws2 := fun u => wModel k a_th (sA th_8 10 (u))) (c_X9_asks n l k (fun j => a_th (3 + j)) 1846 (th_8.2.1 10) r_5 r_7 r_9 (y_11, r_12) hg) E sl_X9_228 dX9_readsAsk_64 rfl [3] hW hA hl rfl rfl ⟨by decide, by decide⟩ ⟨by decide, by decide⟩ (Nat.le_of_ble_eq_true rfl) rfl (fun _ => rfl) (fun _ => rfl) (fun r u H locs hp hW => ?_)
      cases hp
      have hW : WD k A s.heap (wModel k a_th th_13) H locs := by rw [eth_13]; exact hW
      refine k_istore (lv' := [(4, .int r_12), (3, .int r_9), (2, .int r_7), (1, .int r_5), (0, .ref (a_th 0))]) E rfl hl dX9_readsAsk_67 (by decide) rfl (fun ls hl => ?_)
      exact hret th_13 _ _ _ _ _ _ hW (Option.some.inj hf).symm (by decide) (by decide) dX9_readsAsk_69
    · have hf := oT hc hf
      exact hret th_8 _ _ _ _ _ _ hW (Option.some.inj hf).symm (by decide) (by decide) dX9_readsAsk_56
  refine lv_icmp_ge (tgt := 17) E.hx E.hb dX9_readsAsk_10 (by decide) (fun hc => ?_) (fun hc => ?_)
  · have hf := oT hc hf
    refine lv_iconst (v := (0 : Int32)) E.hx E.hb dX9_readsAsk_17 ic_0 ?_
    exact J_18 th_0 (0 : Int32) _ _ _ hW (lv_sub hl [0] rfl) hf
  · have hf := oF hc hf
    refine lv_iconst (v := (1 : Int32)) E.hx E.hb dX9_readsAsk_13 ic_1 ?_
    refine lv_goto (tgt := 18) E.hx E.hb dX9_readsAsk_14 (by decide) ?_
    exact J_18 th_0 (1 : Int32) _ _ _ hW (lv_sub hl [0] rfl) hf
def j_X9_statement_105 (n : Nat) (th_j105 : OS) (s1_j105 : Int32) : Option (OS) :=
  bnd (f_X9_needs n th_j105 s1_j105 (1 : Int32)) (fun (th_2 : OS) =>
  bnd (f_X9_goOn n th_2) (fun (th_3 : OS) =>
  some th_3))
def j_X9_statement_91 (n : Nat) (th_j91 : OS) : Option (OS) :=
  if (th_j91.1 27) = (3 : Int32) then (
  j_X9_statement_105 n th_j91 (1 : Int32)) else (
  j_X9_statement_105 n th_j91 (0 : Int32))
def j_X9_statement_85 (n : Nat) (th_j85 : OS) : Option (OS) :=
  bnd (f_X9_needs n th_j85 (0 : Int32) (1 : Int32)) (fun (th_6 : OS) =>
  j_X9_statement_91 n th_6)
def f_X9_statement (n : Nat) (th_0 : OS) : Option (OS) :=
  bnd (f_X9_isWord n th_0 (1 : Int32)) (fun (r_1 : Int32) =>
  if r_1 = 0 then (
  bnd (f_X9_isWord n th_0 (11 : Int32)) (fun (r_4 : Int32) =>
  if r_4 = 0 then (
  bnd (f_X9_isWord n th_0 (12 : Int32)) (fun (r_5 : Int32) =>
  if r_5 = 0 then (
  if (th_0.1 27) = (1 : Int32) then (
  bnd (f_X9_isIn n (((th_0.1 28)).toInt64) (2 : Int64) (7 : Int64)) (fun (r_7 : Int32) =>
  if r_7 = 0 then (
  j_X9_statement_85 n th_0) else (
  bnd (f_X9_readsOnce n th_0 ((th_0.1 28) - (2 : Int32))) (fun (th_8 : OS) =>
  j_X9_statement_91 n th_8)))) else (
  j_X9_statement_85 n th_0)) else (
  bnd (f_X9_readsAsk n th_0) (fun (th_9 : OS) =>
  j_X9_statement_91 n th_9)))) else (
  bnd (f_X9_readsLoan n th_0) (fun (th_10 : OS) =>
  j_X9_statement_91 n th_10)))) else (
  bnd (f_X9_readsProcess n th_0) (fun (th_11 : OS) =>
  j_X9_statement_91 n th_11)))
set_option maxHeartbeats 4000000 in
set_option maxRecDepth 100000 in
theorem c_X9_statement (n : Nat) (l : Launch) (k : KT) (hE : EH k) (a_th : Nat → Nat) (th_0 : OS) (res : (OS)) (hf : f_X9_statement n th_0 = some res) : CG l k yX9_statement cX9_statement 1 none 9 0 0 201 [.ref (a_th 0)] (wModel k a_th th_0) (Qv k (fun u : OS => wModel k a_th u) (fun u : OS => res = u)) := by
  refine CG.ofV (by decide) (Nat.le_of_ble_eq_true rfl) (fun p e s m args below meth c A Q E hnm hW hA hret ls hl => ?_)
  have hl : lv_has ls 1 [(0, .ref (a_th 0))] := hl
  unfold f_X9_statement at hf
  refine k_aload_n E hl 0 dX9_statement_0 rfl ?_
  refine lv_iconst (v := (1 : Int32)) E.hx E.hb dX9_statement_1 ic_1 ?_
  obtain ⟨r_1, hg, hf⟩ := ob hf
  refine k_callVi (As := [.int (1 : Int32)]) (rest := []) (ws2 := fun u => wModel k a_th th_0) (c_X9_isWord n l k a_th th_0 (1 : Int32) r_1 hg) E vl_X9_420 dX9_statement_2 rfl [0, 1, 2, 3, 4, 5, 6, 7, 8, 9, 10, 11, 12] 7 0 hW hA hl rfl rfl rfl rfl ⟨by decide, by decide⟩ ⟨by decide, by decide⟩ (Nat.le_of_ble_eq_true rfl) rfl (fun _ => rfl) (fun _ => rfl) (fun r u H locs hp hW => ?_)
  cases hp
  have hW : WD k A s.heap (wModel k a_th th_0) H locs := hW
  have J_91 : ∀ (th_j91 : OS) (H : Heap) (locs : List Loc) (ls : Array Slot) (hW : WD k A s.heap (wModel k a_th th_j91) H locs) (hl : lv_has ls 1 [(0, .ref (a_th 0))]) (hf : j_X9_statement_91 n  th_j91 = some res), W p l e { frames := 9, cells := 0, slots := 0, locals := 201 } s m args below meth c H locs 0 0 Q (F0 m 91 ls []) := by
    intro th_j91 H locs ls hW hl hf
    unfold j_X9_statement_91 at hf
    refine k_aload_n E hl 0 dX9_statement_91 rfl ?_
    refine k_aload_n E hl 0 dX9_statement_92 rfl ?_
    refine gf_X9_346 E hW 0 rfl rfl dX9_statement_93 ?_
    refine lv_iconst (v := (3 : Int32)) E.hx E.hb dX9_statement_96 ic_3 ?_
    have J_105 : ∀ (th_j105 : OS) (s1_j105 : Int32) (H : Heap) (locs : List Loc) (ls : Array Slot) (hW : WD k A s.heap (wModel k a_th th_j105) H locs) (hl : lv_has ls 1 [(0, .ref (a_th 0))]) (hf : j_X9_statement_105 n  th_j105 s1_j105 = some res), W p l e { frames := 9, cells := 0, slots := 0, locals := 201 } s m args below meth c H locs 0 0 Q (F0 m 105 ls [.int s1_j105, .ref (a_th 0)]) := by
      intro th_j105 s1_j105 H locs ls hW hl hf
      unfold j_X9_statement_105 at hf
      refine lv_iconst (v := (1 : Int32)) E.hx E.hb dX9_statement_105 ic_1 ?_
      obtain ⟨th_2, hg, hf⟩ := ob hf
      refine k_callVv (As := [.int s1_j105, .int (1 : Int32)]) (rest := []) (ws2 := fun u => wModel k a_th (u)) (c_X9_needs n l k a_th th_j105 s1_j105 (1 : Int32) th_2 hg) E vl_X9_393 dX9_statement_106 rfl [0, 1, 2, 3, 4, 5, 6, 7, 8, 9, 10, 11, 12] 7 0 hW hA hl rfl rfl rfl rfl ⟨by decide, by decide⟩ ⟨by decide, by decide⟩ (Nat.le_of_ble_eq_true rfl) rfl (fun _ => rfl) (fun _ => rfl) (fun u H locs hp hW => ?_)
      cases hp
      have hW : WD k A s.heap (wModel k a_th th_2) H locs := hW
      refine k_aload_n E hl 0 dX9_statement_109 rfl ?_
      obtain ⟨th_3, hg, hf⟩ := ob hf
      refine k_callVv (As := []) (rest := []) (ws2 := fun u => wModel k a_th (u)) (c_X9_goOn n l k hE a_th th_2 th_3 hg) E vl_X9_397 dX9_statement_110 rfl [0, 1, 2, 3, 4, 5, 6, 7, 8, 9, 10, 11, 12] 7 0 hW hA hl rfl rfl rfl rfl ⟨by decide, by decide⟩ ⟨by decide, by decide⟩ (Nat.le_of_ble_eq_true rfl) rfl (fun _ => rfl) (fun _ => rfl) (fun u H locs hp hW => ?_)
      cases hp
      have hW : WD k A s.heap (wModel k a_th th_3) H locs := hW
      exact hret th_3 _ _ _ _ _ _ hW (Option.some.inj hf).symm (by decide) (by decide) dX9_statement_113
    refine lv_icmp_ne (tgt := 104) E.hx E.hb dX9_statement_97 (by decide) (fun hc => ?_) (fun hc => ?_)
    · have hf := oF hc hf
      refine lv_iconst (v := (0 : Int32)) E.hx E.hb dX9_statement_104 ic_0 ?_
      exact J_105 th_j91 (0 : Int32) _ _ _ hW (lv_sub hl [0] rfl) hf
    · have hf := oT hc hf
      refine lv_iconst (v := (1 : Int32)) E.hx E.hb dX9_statement_100 ic_1 ?_
      refine lv_goto (tgt := 105) E.hx E.hb dX9_statement_101 (by decide) ?_
      exact J_105 th_j91 (1 : Int32) _ _ _ hW (lv_sub hl [0] rfl) hf
  refine lv_if_eq (tgt := 15) E.hx E.hb dX9_statement_5 (by decide) (fun hc => ?_) (fun hc => ?_)
  · have hf := oT hc hf
    refine k_aload_n E hl 0 dX9_statement_15 rfl ?_
    refine lv_bipush (v := (11 : Int32)) E.hx E.hb dX9_statement_16 bp_11 ?_
    obtain ⟨r_4, hg, hf⟩ := ob hf
    refine k_callVi (As := [.int (11 : Int32)]) (rest := []) (ws2 := fun u => wModel k a_th th_0) (c_X9_isWord n l k a_th th_0 (11 : Int32) r_4 hg) E vl_X9_420 dX9_statement_18 rfl [0, 1, 2, 3, 4, 5, 6, 7, 8, 9, 10, 11, 12] 7 0 hW hA hl rfl rfl rfl rfl ⟨by decide, by decide⟩ ⟨by decide, by decide⟩ (Nat.le_of_ble_eq_true rfl) rfl (fun _ => rfl) (fun _ => rfl) (fun r u H locs hp hW => ?_)
    cases hp
    have hW : WD k A s.heap (wModel k a_th th_0) H locs := hW
    refine lv_if_eq (tgt := 31) E.hx E.hb dX9_statement_21 (by decide) (fun hc => ?_) (fun hc => ?_)
    · have hf := oT hc hf
      refine k_aload_n E hl 0 dX9_statement_31 rfl ?_
      refine lv_bipush (v := (12 : Int32)) E.hx E.hb dX9_statement_32 bp_12 ?_
      obtain ⟨r_5, hg, hf⟩ := ob hf
      refine k_callVi (As := [.int (12 : Int32)]) (rest := []) (ws2 := fun u => wModel k a_th th_0) (c_X9_isWord n l k a_th th_0 (12 : Int32) r_5 hg) E vl_X9_420 dX9_statement_34 rfl [0, 1, 2, 3, 4, 5, 6, 7, 8, 9, 10, 11, 12] 7 0 hW hA hl rfl rfl rfl rfl ⟨by decide, by decide⟩ ⟨by decide, by decide⟩ (Nat.le_of_ble_eq_true rfl) rfl (fun _ => rfl) (fun _ => rfl) (fun r u H locs hp hW => ?_)
      cases hp
      have hW : WD k A s.heap (wModel k a_th th_0) H locs := hW
      refine lv_if_eq (tgt := 47) E.hx E.hb dX9_statement_37 (by decide) (fun hc => ?_) (fun hc => ?_)
      · have hf := oT hc hf
        refine k_aload_n E hl 0 dX9_statement_47 rfl ?_
        refine gf_X9_346 E hW 0 rfl rfl dX9_statement_48 ?_
        refine lv_iconst (v := (1 : Int32)) E.hx E.hb dX9_statement_51 ic_1 ?_
        have J_85 : ∀ (th_j85 : OS) (H : Heap) (locs : List Loc) (ls : Array Slot) (hW : WD k A s.heap (wModel k a_th th_j85) H locs) (hl : lv_has ls 1 [(0, .ref (a_th 0))]) (hf : j_X9_statement_85 n  th_j85 = some res), W p l e { frames := 9, cells := 0, slots := 0, locals := 201 } s m args below meth c H locs 0 0 Q (F0 m 85 ls []) := by
          intro th_j85 H locs ls hW hl hf
          unfold j_X9_statement_85 at hf
          refine k_aload_n E hl 0 dX9_statement_85 rfl ?_
          refine lv_iconst (v := (0 : Int32)) E.hx E.hb dX9_statement_86 ic_0 ?_
          refine lv_iconst (v := (1 : Int32)) E.hx E.hb dX9_statement_87 ic_1 ?_
          obtain ⟨th_6, hg, hf⟩ := ob hf
          refine k_callVv (As := [.int (0 : Int32), .int (1 : Int32)]) (rest := []) (ws2 := fun u => wModel k a_th (u)) (c_X9_needs n l k a_th th_j85 (0 : Int32) (1 : Int32) th_6 hg) E vl_X9_393 dX9_statement_88 rfl [0, 1, 2, 3, 4, 5, 6, 7, 8, 9, 10, 11, 12] 7 0 hW hA hl rfl rfl rfl rfl ⟨by decide, by decide⟩ ⟨by decide, by decide⟩ (Nat.le_of_ble_eq_true rfl) rfl (fun _ => rfl) (fun _ => rfl) (fun u H locs hp hW => ?_)
          cases hp
          have hW : WD k A s.heap (wModel k a_th th_6) H locs := hW
          exact J_91 th_6 _ _ _ hW (lv_sub hl [0] rfl) hf
        refine lv_icmp_ne (tgt := 85) E.hx E.hb dX9_statement_52 (by decide) (fun hc => ?_) (fun hc => ?_)
        · have hf := oF hc hf
          exact J_85 th_0 _ _ _ hW (lv_sub hl [0] rfl) hf
        · have hf := oT hc hf
          refine k_aload_n E hl 0 dX9_statement_55 rfl ?_
          refine gf_X9_363 E hW 0 rfl rfl dX9_statement_56 ?_
          refine lv_i2l (v := ((th_0.1 28)).toInt64) E.hx E.hb dX9_statement_59 rfl ?_
          refine lv_ldc2 E.hx E.hb E.ho (E.w tm_1675 rfl) dX9_statement_60 ?_
          refine lv_ldc2 E.hx E.hb E.ho (E.w tm_1709 rfl) dX9_statement_63 ?_
          obtain ⟨r_7, hg, hf⟩ := ob hf
          refine k_callSi (As := [.long (((th_0.1 28)).toInt64), .long (2 : Int64), .long (7 : Int64)]) (rest := []) (ws2 := fun u => wModel k a_th th_0) (c_X9_isIn n l k (((th_0.1 28)).toInt64) (2 : Int64) (7 : Int64) r_7 hg) E sl_X9_92 dX9_statement_66 rfl [] hW hA hl rfl rfl ⟨by decide, by decide⟩ ⟨by decide, by decide⟩ (Nat.le_of_ble_eq_true rfl) rfl (fun _ => rfl) (fun _ => rfl) (fun r u H locs hp hW => ?_)
          cases hp
          have hW : WD k A s.heap (wModel k a_th th_0) H locs := hW
          refine lv_if_eq (tgt := 85) E.hx E.hb dX9_statement_69 (by decide) (fun hc => ?_) (fun hc => ?_)
          · have hf := oT hc hf
            exact J_85 th_0 _ _ _ hW (lv_sub hl [0] rfl) hf
          · have hf := oF hc hf
            refine k_aload_n E hl 0 dX9_statement_72 rfl ?_
            refine k_aload_n E hl 0 dX9_statement_73 rfl ?_
            refine gf_X9_363 E hW 0 rfl rfl dX9_statement_74 ?_
            refine lv_iconst (v := (2 : Int32)) E.hx E.hb dX9_statement_77 ic_2 ?_
            refine lv_isub E.hx E.hb dX9_statement_78 ?_
            obtain ⟨th_8, hg, hf⟩ := ob hf
            refine k_callVv (As := [.int ((th_0.1 28) - (2 : Int32))]) (rest := []) (ws2 := fun u => wModel k a_th (u)) (c_X9_readsOnce n l k hE a_th th_0 ((th_0.1 28) - (2 : Int32)) th_8 hg) E vl_X9_432 dX9_statement_79 rfl [0, 1, 2, 3, 4, 5, 6, 7, 8, 9, 10, 11, 12] 7 0 hW hA hl rfl rfl rfl rfl ⟨by decide, by decide⟩ ⟨by decide, by decide⟩ (Nat.le_of_ble_eq_true rfl) rfl (fun _ => rfl) (fun _ => rfl) (fun u H locs hp hW => ?_)
            cases hp
            have hW : WD k A s.heap (wModel k a_th th_8) H locs := hW
            refine lv_goto (tgt := 91) E.hx E.hb dX9_statement_82 (by decide) ?_
            exact J_91 th_8 _ _ _ hW (lv_sub hl [0] rfl) hf
      · have hf := oF hc hf
        refine k_aload_n E hl 0 dX9_statement_40 rfl ?_
        obtain ⟨th_9, hg, hf⟩ := ob hf
        refine k_callVv (As := []) (rest := []) (ws2 := fun u => wModel k a_th (u)) (c_X9_readsAsk n l k hE a_th th_0 th_9 hg) E vl_X9_429 dX9_statement_41 rfl [0, 1, 2, 3, 4, 5, 6, 7, 8, 9, 10, 11, 12] 7 0 hW hA hl rfl rfl rfl rfl ⟨by decide, by decide⟩ ⟨by decide, by decide⟩ (Nat.le_of_ble_eq_true rfl) rfl (fun _ => rfl) (fun _ => rfl) (fun u H locs hp hW => ?_)
        cases hp
        have hW : WD k A s.heap (wModel k a_th th_9) H locs := hW
        refine lv_goto (tgt := 91) E.hx E.hb dX9_statement_44 (by decide) ?_
        exact J_91 th_9 _ _ _ hW (lv_sub hl [0] rfl) hf
    · have hf := oF hc hf
      refine k_aload_n E hl 0 dX9_statement_24 rfl ?_
      obtain ⟨th_10, hg, hf⟩ := ob hf
      refine k_callVv (As := []) (rest := []) (ws2 := fun u => wModel k a_th (u)) (c_X9_readsLoan n l k hE a_th th_0 th_10 hg) E vl_X9_426 dX9_statement_25 rfl [0, 1, 2, 3, 4, 5, 6, 7, 8, 9, 10, 11, 12] 7 0 hW hA hl rfl rfl rfl rfl ⟨by decide, by decide⟩ ⟨by decide, by decide⟩ (Nat.le_of_ble_eq_true rfl) rfl (fun _ => rfl) (fun _ => rfl) (fun u H locs hp hW => ?_)
      cases hp
      have hW : WD k A s.heap (wModel k a_th th_10) H locs := hW
      refine lv_goto (tgt := 91) E.hx E.hb dX9_statement_28 (by decide) ?_
      exact J_91 th_10 _ _ _ hW (lv_sub hl [0] rfl) hf
  · have hf := oF hc hf
    refine k_aload_n E hl 0 dX9_statement_8 rfl ?_
    obtain ⟨th_11, hg, hf⟩ := ob hf
    refine k_callVv (As := []) (rest := []) (ws2 := fun u => wModel k a_th (u)) (c_X9_readsProcess n l k hE a_th th_0 th_11 hg) E vl_X9_423 dX9_statement_9 rfl [0, 1, 2, 3, 4, 5, 6, 7, 8, 9, 10, 11, 12] 7 0 hW hA hl rfl rfl rfl rfl ⟨by decide, by decide⟩ ⟨by decide, by decide⟩ (Nat.le_of_ble_eq_true rfl) rfl (fun _ => rfl) (fun _ => rfl) (fun u H locs hp hW => ?_)
    cases hp
    have hW : WD k A s.heap (wModel k a_th th_11) H locs := hW
    refine lv_goto (tgt := 91) E.hx E.hb dX9_statement_12 (by decide) ?_
    exact J_91 th_11 _ _ _ hW (lv_sub hl [0] rfl) hf
def j_X9_parse_117 (n : Nat) (th_j117 : OS) : Option (OS × Int32) :=
  bnd (f_X9_fine_ n th_j117) (fun (r_19 : Int32) =>
  if r_19 = 0 then (
  some (th_j117, (-1 : Int32))) else (
  bnd (f_X9_takesDraft n th_j117) (fun (th_20 : OS) =>
  some (th_20, (th_20.1 2)))))
def s_X9_parse_96 (n : Nat) (rc_96 : (OS) → Option (OS × Int32)) (th_j96 : OS) : Option (OS × Int32) :=
  bnd (f_X9_fine_ n th_j96) (fun (r_18 : Int32) =>
  if r_18 = 0 then (
  j_X9_parse_117 n th_j96) else (
  if (th_j96.1 27) = 0 then (
  j_X9_parse_117 n th_j96) else (
  bnd (f_X9_statement n th_j96) (fun (th_21 : OS) =>
  rc_96 th_21))))
def l_X9_parse_96 (n : Nat) : Nat → (OS) → Option (OS × Int32)
  | 0 => fun _ => none
  | N + 1 => s_X9_parse_96 n (l_X9_parse_96 n N)
def j_X9_parse_88 (n : Nat) (th_j88 : OS) (s1_j88 : Int32) : Option (OS × Int32) :=
  bnd (f_X9_needs n th_j88 s1_j88 (1 : Int32)) (fun (th_16 : OS) =>
  bnd (f_X9_goOn n th_16) (fun (th_17 : OS) =>
  l_X9_parse_96 n n th_17))
def f_X9_parse (n : Nat) (th_0 : OS) : Option (OS × Int32) :=
  Let (sI th_0 0 (0 : Int32)) (fun th_1 : OS =>
  Let (sI th_1 31 (0 : Int32)) (fun th_2 : OS =>
  Let (sI th_2 32 (-1 : Int32)) (fun th_3 : OS =>
  bnd (f_X9_clears n th_3) (fun (th_4 : OS) =>
  Let (sI th_4 24 (th_4.1 23)) (fun th_5 : OS =>
  Let (sI th_5 23 (0 : Int32)) (fun th_6 : OS =>
  Let (sI th_6 25 (0 : Int32)) (fun th_7 : OS =>
  bnd (f_X9_next n th_7) (fun (th_8 : OS) =>
  bnd (f_X9_isWord n th_8 (0 : Int32)) (fun (r_9 : Int32) =>
  bnd (f_X9_needs n th_8 r_9 (1 : Int32)) (fun (th_10 : OS) =>
  bnd (f_X9_goOn n th_10) (fun (th_11 : OS) =>
  bnd2 (f_X9_number n th_11 (4 : Int32) (64 : Int32)) (fun (th_12 : OS) (r_13 : Int32) =>
  Let (sI th_12 33 r_13) (fun th_14 : OS =>
  Let (sI th_14 36 (th_14.1 33)) (fun th_15 : OS =>
  if (th_15.1 27) = (3 : Int32) then (
  j_X9_parse_88 n th_15 (1 : Int32)) else (
  j_X9_parse_88 n th_15 (0 : Int32))))))))))))))))
set_option maxHeartbeats 4000000 in
set_option maxRecDepth 100000 in
theorem c_X9_parse (n : Nat) (l : Launch) (k : KT) (hE : EH k) (a_th : Nat → Nat) (th_0 : OS) (res : (OS × Int32)) (hf : f_X9_parse n th_0 = some res) : CG l k yX9_parse cX9_parse 1 (some .int) 10 0 0 221 [.ref (a_th 0)] (wModel k a_th th_0) (Qi k (fun u : OS => wModel k a_th u) (fun (r : Int32) (u : OS) => res = (u, r))) := by
  refine CG.ofI (by decide) (Nat.le_of_ble_eq_true rfl) (fun p e s m args below meth c A Q E hnm hW hA hret ls hl => ?_)
  have hl : lv_has ls 1 [(0, .ref (a_th 0))] := hl
  unfold f_X9_parse at hf
  refine k_aload_n E hl 0 dX9_parse_0 rfl ?_
  refine lv_iconst (v := (0 : Int32)) E.hx E.hb dX9_parse_1 ic_0 ?_
  obtain ⟨th_1, eth_1, hf⟩ := oL hf
  refine pf_X9_67 (ws2 := wModel k a_th th_1) E hW 0 rfl rfl rfl (Nat.le_of_ble_eq_true rfl) dX9_parse_2 (by rw [eth_1]; rfl) (fun H locs hW => ?_)
  refine k_aload_n E hl 0 dX9_parse_5 rfl ?_
  refine lv_iconst (v := (0 : Int32)) E.hx E.hb dX9_parse_6 ic_0 ?_
  obtain ⟨th_2, eth_2, hf⟩ := oL hf
  refine pf_X9_383 (ws2 := wModel k a_th th_2) E hW 0 rfl rfl rfl (Nat.le_of_ble_eq_true rfl) dX9_parse_7 (by rw [eth_2]; rfl) (fun H locs hW => ?_)
  refine k_aload_n E hl 0 dX9_parse_10 rfl ?_
  refine lv_iconst (v := (-1 : Int32)) E.hx E.hb dX9_parse_11 ic_m1 ?_
  obtain ⟨th_3, eth_3, hf⟩ := oL hf
  refine pf_X9_46 (ws2 := wModel k a_th th_3) E hW 0 rfl rfl rfl (Nat.le_of_ble_eq_true rfl) dX9_parse_12 (by rw [eth_3]; rfl) (fun H locs hW => ?_)
  refine k_aload_n E hl 0 dX9_parse_15 rfl ?_
  obtain ⟨th_4, hg, hf⟩ := ob hf
  refine k_callVv (As := []) (rest := []) (ws2 := fun u => wModel k a_th (u)) (c_X9_clears n l k a_th th_3 th_4 hg) E vl_X9_58 dX9_parse_16 rfl [0, 1, 2, 3, 4, 5, 6, 7, 8, 9, 10, 11, 12] 7 0 hW hA hl rfl rfl rfl rfl ⟨by decide, by decide⟩ ⟨by decide, by decide⟩ (Nat.le_of_ble_eq_true rfl) rfl (fun _ => rfl) (fun _ => rfl) (fun u H locs hp hW => ?_)
  cases hp
  have hW : WD k A s.heap (wModel k a_th th_4) H locs := hW
  refine k_aload_n E hl 0 dX9_parse_19 rfl ?_
  refine k_aload_n E hl 0 dX9_parse_20 rfl ?_
  refine gf_X9_327 E hW 0 rfl rfl dX9_parse_21 ?_
  obtain ⟨th_5, eth_5, hf⟩ := oL hf
  refine pf_X9_330 (ws2 := wModel k a_th th_5) E hW 0 rfl rfl rfl (Nat.le_of_ble_eq_true rfl) dX9_parse_24 (by rw [eth_5]; rfl) (fun H locs hW => ?_)
  refine k_aload_n E hl 0 dX9_parse_27 rfl ?_
  refine lv_iconst (v := (0 : Int32)) E.hx E.hb dX9_parse_28 ic_0 ?_
  obtain ⟨th_6, eth_6, hf⟩ := oL hf
  refine pf_X9_327 (ws2 := wModel k a_th th_6) E hW 0 rfl rfl rfl (Nat.le_of_ble_eq_true rfl) dX9_parse_29 (by rw [eth_6]; rfl) (fun H locs hW => ?_)
  refine k_aload_n E hl 0 dX9_parse_32 rfl ?_
  refine lv_iconst (v := (0 : Int32)) E.hx E.hb dX9_parse_33 ic_0 ?_
  obtain ⟨th_7, eth_7, hf⟩ := oL hf
  refine pf_X9_340 (ws2 := wModel k a_th th_7) E hW 0 rfl rfl rfl (Nat.le_of_ble_eq_true rfl) dX9_parse_34 (by rw [eth_7]; rfl) (fun H locs hW => ?_)
  refine k_aload_n E hl 0 dX9_parse_37 rfl ?_
  obtain ⟨th_8, hg, hf⟩ := ob hf
  refine k_callVv (As := []) (rest := []) (ws2 := fun u => wModel k a_th (u)) (c_X9_next n l k hE a_th th_7 th_8 hg) E vl_X9_390 dX9_parse_38 rfl [0, 1, 2, 3, 4, 5, 6, 7, 8, 9, 10, 11, 12] 7 0 hW hA hl rfl rfl rfl rfl ⟨by decide, by decide⟩ ⟨by decide, by decide⟩ (Nat.le_of_ble_eq_true rfl) rfl (fun _ => rfl) (fun _ => rfl) (fun u H locs hp hW => ?_)
  cases hp
  have hW : WD k A s.heap (wModel k a_th th_8) H locs := hW
  refine k_aload_n E hl 0 dX9_parse_41 rfl ?_
  refine k_aload_n E hl 0 dX9_parse_42 rfl ?_
  refine lv_iconst (v := (0 : Int32)) E.hx E.hb dX9_parse_43 ic_0 ?_
  obtain ⟨r_9, hg, hf⟩ := ob hf
  refine k_callVi (As := [.int (0 : Int32)]) (rest := [.ref (a_th 0)]) (ws2 := fun u => wModel k a_th th_8) (c_X9_isWord n l k a_th th_8 (0 : Int32) r_9 hg) E vl_X9_420 dX9_parse_44 rfl [0, 1, 2, 3, 4, 5, 6, 7, 8, 9, 10, 11, 12] 7 0 hW hA hl rfl rfl rfl rfl ⟨by decide, by decide⟩ ⟨by decide, by decide⟩ (Nat.le_of_ble_eq_true rfl) rfl (fun _ => rfl) (fun _ => rfl) (fun r u H locs hp hW => ?_)
  cases hp
  have hW : WD k A s.heap (wModel k a_th th_8) H locs := hW
  refine lv_iconst (v := (1 : Int32)) E.hx E.hb dX9_parse_47 ic_1 ?_
  obtain ⟨th_10, hg, hf⟩ := ob hf
  refine k_callVv (As := [.int r_9, .int (1 : Int32)]) (rest := []) (ws2 := fun u => wModel k a_th (u)) (c_X9_needs n l k a_th th_8 r_9 (1 : Int32) th_10 hg) E vl_X9_393 dX9_parse_48 rfl [0, 1, 2, 3, 4, 5, 6, 7, 8, 9, 10, 11, 12] 7 0 hW hA hl rfl rfl rfl rfl ⟨by decide, by decide⟩ ⟨by decide, by decide⟩ (Nat.le_of_ble_eq_true rfl) rfl (fun _ => rfl) (fun _ => rfl) (fun u H locs hp hW => ?_)
  cases hp
  have hW : WD k A s.heap (wModel k a_th th_10) H locs := hW
  refine k_aload_n E hl 0 dX9_parse_51 rfl ?_
  obtain ⟨th_11, hg, hf⟩ := ob hf
  refine k_callVv (As := []) (rest := []) (ws2 := fun u => wModel k a_th (u)) (c_X9_goOn n l k hE a_th th_10 th_11 hg) E vl_X9_397 dX9_parse_52 rfl [0, 1, 2, 3, 4, 5, 6, 7, 8, 9, 10, 11, 12] 7 0 hW hA hl rfl rfl rfl rfl ⟨by decide, by decide⟩ ⟨by decide, by decide⟩ (Nat.le_of_ble_eq_true rfl) rfl (fun _ => rfl) (fun _ => rfl) (fun u H locs hp hW => ?_)
  cases hp
  have hW : WD k A s.heap (wModel k a_th th_11) H locs := hW
  refine k_aload_n E hl 0 dX9_parse_55 rfl ?_
  refine k_aload_n E hl 0 dX9_parse_56 rfl ?_
  refine lv_iconst (v := (4 : Int32)) E.hx E.hb dX9_parse_57 ic_4 ?_
  refine lv_bipush (v := (64 : Int32)) E.hx E.hb dX9_parse_58 bp_64 ?_
  obtain ⟨th_12, r_13, hg, hf⟩ := ob2 hf
  refine k_callVi (As := [.int (4 : Int32), .int (64 : Int32)]) (rest := [.ref (a_th 0)]) (ws2 := fun u => wModel k a_th (u)) (c_X9_number n l k hE a_th th_11 (4 : Int32) (64 : Int32) (th_12, r_13) hg) E vl_X9_414 dX9_parse_60 rfl [0, 1, 2, 3, 4, 5, 6, 7, 8, 9, 10, 11, 12] 7 0 hW hA hl rfl rfl rfl rfl ⟨by decide, by decide⟩ ⟨by decide, by decide⟩ (Nat.le_of_ble_eq_true rfl) rfl (fun _ => rfl) (fun _ => rfl) (fun r u H locs hp hW => ?_)
  cases hp
  have hW : WD k A s.heap (wModel k a_th th_12) H locs := hW
  obtain ⟨th_14, eth_14, hf⟩ := oL hf
  refine pf_X9_61 (ws2 := wModel k a_th th_14) E hW 0 rfl rfl rfl (Nat.le_of_ble_eq_true rfl) dX9_parse_63 (by rw [eth_14]; rfl) (fun H locs hW => ?_)
  refine k_aload_n E hl 0 dX9_parse_66 rfl ?_
  refine k_aload_n E hl 0 dX9_parse_67 rfl ?_
  refine gf_X9_61 E hW 0 rfl rfl dX9_parse_68 ?_
  obtain ⟨th_15, eth_15, hf⟩ := oL hf
  refine pf_X9_320 (ws2 := wModel k a_th th_15) E hW 0 rfl rfl rfl (Nat.le_of_ble_eq_true rfl) dX9_parse_71 (by rw [eth_15]; rfl) (fun H locs hW => ?_)
  refine k_aload_n E hl 0 dX9_parse_74 rfl ?_
  refine k_aload_n E hl 0 dX9_parse_75 rfl ?_
  refine gf_X9_346 E hW 0 rfl rfl dX9_parse_76 ?_
  refine lv_iconst (v := (3 : Int32)) E.hx E.hb dX9_parse_79 ic_3 ?_
  have J_88 : ∀ (th_j88 : OS) (s1_j88 : Int32) (H : Heap) (locs : List Loc) (ls : Array Slot) (hW : WD k A s.heap (wModel k a_th th_j88) H locs) (hl : lv_has ls 1 [(0, .ref (a_th 0))]) (hf : j_X9_parse_88 n  th_j88 s1_j88 = some res), W p l e { frames := 10, cells := 0, slots := 0, locals := 221 } s m args below meth c H locs 0 0 Q (F0 m 88 ls [.int s1_j88, .ref (a_th 0)]) := by
    intro th_j88 s1_j88 H locs ls hW hl hf
    unfold j_X9_parse_88 at hf
    refine lv_iconst (v := (1 : Int32)) E.hx E.hb dX9_parse_88 ic_1 ?_
    obtain ⟨th_16, hg, hf⟩ := ob hf
    refine k_callVv (As := [.int s1_j88, .int (1 : Int32)]) (rest := []) (ws2 := fun u => wModel k a_th (u)) (c_X9_needs n l k a_th th_j88 s1_j88 (1 : Int32) th_16 hg) E vl_X9_393 dX9_parse_89 rfl [0, 1, 2, 3, 4, 5, 6, 7, 8, 9, 10, 11, 12] 7 0 hW hA hl rfl rfl rfl rfl ⟨by decide, by decide⟩ ⟨by decide, by decide⟩ (Nat.le_of_ble_eq_true rfl) rfl (fun _ => rfl) (fun _ => rfl) (fun u H locs hp hW => ?_)
    cases hp
    have hW : WD k A s.heap (wModel k a_th th_16) H locs := hW
    refine k_aload_n E hl 0 dX9_parse_92 rfl ?_
    obtain ⟨th_17, hg, hf⟩ := ob hf
    refine k_callVv (As := []) (rest := []) (ws2 := fun u => wModel k a_th (u)) (c_X9_goOn n l k hE a_th th_16 th_17 hg) E vl_X9_397 dX9_parse_93 rfl [0, 1, 2, 3, 4, 5, 6, 7, 8, 9, 10, 11, 12] 7 0 hW hA hl rfl rfl rfl rfl ⟨by decide, by decide⟩ ⟨by decide, by decide⟩ (Nat.le_of_ble_eq_true rfl) rfl (fun _ => rfl) (fun _ => rfl) (fun u H locs hp hW => ?_)
    cases hp
    have hW : WD k A s.heap (wModel k a_th th_17) H locs := hW
    have L_96 : ∀ (N_96 : Nat) (th_j96 : OS) (H : Heap) (locs : List Loc) (ls : Array Slot) (hW : WD k A s.heap (wModel k a_th th_j96) H locs) (hl : lv_has ls 1 [(0, .ref (a_th 0))]) (hf : l_X9_parse_96 n N_96 th_j96 = some res), W p l e { frames := 10, cells := 0, slots := 0, locals := 221 } s m args below meth c H locs 0 0 Q (F0 m 96 ls []) := by
      intro N_96
      induction N_96 with
      | zero => intro th_j96 H locs ls hW hl hf; exact o0 hf
      | succ N_96 ih_96 =>
        intro th_j96 H locs ls hW hl hf
        have hf : s_X9_parse_96 n  (l_X9_parse_96 n N_96) th_j96 = some res := hf
        unfold s_X9_parse_96 at hf
        refine k_aload_n E hl 0 dX9_parse_96 rfl ?_
        obtain ⟨r_18, hg, hf⟩ := ob hf
        refine k_callVi (As := []) (rest := []) (ws2 := fun u => wModel k a_th th_j96) (c_X9_fine_ n l k a_th th_j96 r_18 hg) E vl_X9_386 dX9_parse_97 rfl [0, 1, 2, 3, 4, 5, 6, 7, 8, 9, 10, 11, 12] 7 0 hW hA hl rfl rfl rfl rfl ⟨by decide, by decide⟩ ⟨by decide, by decide⟩ (Nat.le_of_ble_eq_true rfl) rfl (fun _ => rfl) (fun _ => rfl) (fun r u H locs hp hW => ?_)
        cases hp
        have hW : WD k A s.heap (wModel k a_th th_j96) H locs := hW
        have J_117 : ∀ (th_j117 : OS) (H : Heap) (locs : List Loc) (ls : Array Slot) (hW : WD k A s.heap (wModel k a_th th_j117) H locs) (hl : lv_has ls 1 [(0, .ref (a_th 0))]) (hf : j_X9_parse_117 n  th_j117 = some res), W p l e { frames := 10, cells := 0, slots := 0, locals := 221 } s m args below meth c H locs 0 0 Q (F0 m 117 ls []) := by
          intro th_j117 H locs ls hW hl hf
          unfold j_X9_parse_117 at hf
          refine k_aload_n E hl 0 dX9_parse_117 rfl ?_
          obtain ⟨r_19, hg, hf⟩ := ob hf
          refine k_callVi (As := []) (rest := []) (ws2 := fun u => wModel k a_th th_j117) (c_X9_fine_ n l k a_th th_j117 r_19 hg) E vl_X9_386 dX9_parse_118 rfl [0, 1, 2, 3, 4, 5, 6, 7, 8, 9, 10, 11, 12] 7 0 hW hA hl rfl rfl rfl rfl ⟨by decide, by decide⟩ ⟨by decide, by decide⟩ (Nat.le_of_ble_eq_true rfl) rfl (fun _ => rfl) (fun _ => rfl) (fun r u H locs hp hW => ?_)
          cases hp
          have hW : WD k A s.heap (wModel k a_th th_j117) H locs := hW
          refine lv_if_ne (tgt := 126) E.hx E.hb dX9_parse_121 (by decide) (fun hc => ?_) (fun hc => ?_)
          · have hf := oF hc hf
            refine k_aload_n E hl 0 dX9_parse_126 rfl ?_
            obtain ⟨th_20, hg, hf⟩ := ob hf
            refine k_callVv (As := []) (rest := []) (ws2 := fun u => wModel k a_th (u)) (c_X9_takesDraft n l k a_th th_j117 th_20 hg) E vl_X9_64 dX9_parse_127 rfl [0, 1, 2, 3, 4, 5, 6, 7, 8, 9, 10, 11, 12] 7 0 hW hA hl rfl rfl rfl rfl ⟨by decide, by decide⟩ ⟨by decide, by decide⟩ (Nat.le_of_ble_eq_true rfl) rfl (fun _ => rfl) (fun _ => rfl) (fun u H locs hp hW => ?_)
            cases hp
            have hW : WD k A s.heap (wModel k a_th th_20) H locs := hW
            refine k_aload_n E hl 0 dX9_parse_130 rfl ?_
            refine gf_X9_89 E hW 0 rfl rfl dX9_parse_131 ?_
            exact hret _ th_20 _ _ _ _ _ _ hW (Option.some.inj hf).symm rfl (by decide) (by decide) dX9_parse_134
          · have hf := oT hc hf
            refine lv_iconst (v := (-1 : Int32)) E.hx E.hb dX9_parse_124 ic_m1 ?_
            exact hret _ th_j117 _ _ _ _ _ _ hW (Option.some.inj hf).symm rfl (by decide) (by decide) dX9_parse_125
        refine lv_if_eq (tgt := 117) E.hx E.hb dX9_parse_100 (by decide) (fun hc => ?_) (fun hc => ?_)
        · have hf := oT hc hf
          exact J_117 th_j96 _ _ _ hW (lv_sub hl [0] rfl) hf
        · have hf := oF hc hf
          refine k_aload_n E hl 0 dX9_parse_103 rfl ?_
          refine gf_X9_346 E hW 0 rfl rfl dX9_parse_104 ?_
          refine lv_if_eq (tgt := 117) E.hx E.hb dX9_parse_107 (by decide) (fun hc => ?_) (fun hc => ?_)
          · have hf := oT hc hf
            exact J_117 th_j96 _ _ _ hW (lv_sub hl [0] rfl) hf
          · have hf := oF hc hf
            refine k_aload_n E hl 0 dX9_parse_110 rfl ?_
            obtain ⟨th_21, hg, hf⟩ := ob hf
            refine k_callVv (As := []) (rest := []) (ws2 := fun u => wModel k a_th (u)) (c_X9_statement n l k hE a_th th_j96 th_21 hg) E vl_X9_435 dX9_parse_111 rfl [0, 1, 2, 3, 4, 5, 6, 7, 8, 9, 10, 11, 12] 7 0 hW hA hl rfl rfl rfl rfl ⟨by decide, by decide⟩ ⟨by decide, by decide⟩ (Nat.le_of_ble_eq_true rfl) rfl (fun _ => rfl) (fun _ => rfl) (fun u H locs hp hW => ?_)
            cases hp
            have hW : WD k A s.heap (wModel k a_th th_21) H locs := hW
            refine lv_goto (tgt := 96) E.hx E.hb dX9_parse_114 (by decide) ?_
            exact ih_96 th_21 _ _ _ hW (lv_sub hl [0] rfl) hf
    exact L_96 n th_17 _ _ _ hW (lv_sub hl [0] rfl) hf
  refine lv_icmp_ne (tgt := 87) E.hx E.hb dX9_parse_80 (by decide) (fun hc => ?_) (fun hc => ?_)
  · have hf := oF hc hf
    refine lv_iconst (v := (0 : Int32)) E.hx E.hb dX9_parse_87 ic_0 ?_
    exact J_88 th_15 (0 : Int32) _ _ _ hW (lv_sub hl [0] rfl) hf
  · have hf := oT hc hf
    refine lv_iconst (v := (1 : Int32)) E.hx E.hb dX9_parse_83 ic_1 ?_
    refine lv_goto (tgt := 88) E.hx E.hb dX9_parse_84 (by decide) ?_
    exact J_88 th_15 (1 : Int32) _ _ _ hW (lv_sub hl [0] rfl) hf
