theorem tm_418 : (Jvm.Cond.methodLink "MemoryCourtLaw" (116 : Nat) ({ cls := "MemoryCourt", name := "feed", desc := "(IIIII)I" } : Jvm.MethodName)) ∈ lw_tbl := List.mem_of_getElem? (i := 418) (by decide +kernel)
theorem tm_419 : (Jvm.Cond.instanceMethod ({ cls := "MemoryCourt", name := "feed", desc := "(IIIII)I" } : Jvm.MethodName)) ∈ lw_tbl := List.mem_of_getElem? (i := 419) (by decide +kernel)
theorem tm_420 : (Jvm.Cond.selects "MemoryCourt" ({ cls := "MemoryCourt", name := "feed", desc := "(IIIII)I" } : Jvm.MethodName) ({ cls := "MemoryCourt", name := "feed", desc := "(IIIII)I" } : Jvm.MethodName)) ∈ lw_tbl := List.mem_of_getElem? (i := 420) (by decide +kernel)
theorem tm_421 : (Jvm.Cond.code ({ cls := "MemoryCourt", name := "feed", desc := "(IIIII)I" } : Jvm.MethodName) prog_1_method_2_code (6 : Nat) (Option.some Jvm.ClassFile.FieldType.int)) ∈ lw_tbl := List.mem_of_getElem? (i := 421) (by decide +kernel)
theorem tm_1831 : (Jvm.Cond.methodLink "MemoryCourtLaw" (120 : Nat) ({ cls := "MemoryCourtModel", name := "feed", desc := "(IIIII)I" } : Jvm.MethodName)) ∈ lw_tbl := List.mem_of_getElem? (i := 1831) (by decide +kernel)
theorem tm_1832 : (Jvm.Cond.instanceMethod ({ cls := "MemoryCourtModel", name := "feed", desc := "(IIIII)I" } : Jvm.MethodName)) ∈ lw_tbl := List.mem_of_getElem? (i := 1832) (by decide +kernel)
theorem tm_1833 : (Jvm.Cond.selects "MemoryCourtModel" ({ cls := "MemoryCourtModel", name := "feed", desc := "(IIIII)I" } : Jvm.MethodName) ({ cls := "MemoryCourtModel", name := "feed", desc := "(IIIII)I" } : Jvm.MethodName)) ∈ lw_tbl := List.mem_of_getElem? (i := 1833) (by decide +kernel)
theorem tm_1834 : (Jvm.Cond.code ({ cls := "MemoryCourtModel", name := "feed", desc := "(IIIII)I" } : Jvm.MethodName) prog_11_method_104_code (8 : Nat) (Option.some Jvm.ClassFile.FieldType.int)) ∈ lw_tbl := List.mem_of_getElem? (i := 1834) (by decide +kernel)
theorem tm_430 : (Jvm.Cond.methodLink "MemoryCourtLaw" (121 : Nat) ({ cls := "MemoryCourt", name := "truncate", desc := "(I)Z" } : Jvm.MethodName)) ∈ lw_tbl := List.mem_of_getElem? (i := 430) (by decide +kernel)
theorem tm_431 : (Jvm.Cond.instanceMethod ({ cls := "MemoryCourt", name := "truncate", desc := "(I)Z" } : Jvm.MethodName)) ∈ lw_tbl := List.mem_of_getElem? (i := 431) (by decide +kernel)
theorem tm_432 : (Jvm.Cond.selects "MemoryCourt" ({ cls := "MemoryCourt", name := "truncate", desc := "(I)Z" } : Jvm.MethodName) ({ cls := "MemoryCourt", name := "truncate", desc := "(I)Z" } : Jvm.MethodName)) ∈ lw_tbl := List.mem_of_getElem? (i := 432) (by decide +kernel)
theorem tm_433 : (Jvm.Cond.code ({ cls := "MemoryCourt", name := "truncate", desc := "(I)Z" } : Jvm.MethodName) prog_1_method_3_code (2 : Nat) (Option.some Jvm.ClassFile.FieldType.boolean)) ∈ lw_tbl := List.mem_of_getElem? (i := 433) (by decide +kernel)
theorem tm_1835 : (Jvm.Cond.methodLink "MemoryCourtLaw" (125 : Nat) ({ cls := "MemoryCourtModel", name := "truncate", desc := "(I)Z" } : Jvm.MethodName)) ∈ lw_tbl := List.mem_of_getElem? (i := 1835) (by decide +kernel)
theorem tm_1836 : (Jvm.Cond.instanceMethod ({ cls := "MemoryCourtModel", name := "truncate", desc := "(I)Z" } : Jvm.MethodName)) ∈ lw_tbl := List.mem_of_getElem? (i := 1836) (by decide +kernel)
theorem tm_1837 : (Jvm.Cond.selects "MemoryCourtModel" ({ cls := "MemoryCourtModel", name := "truncate", desc := "(I)Z" } : Jvm.MethodName) ({ cls := "MemoryCourtModel", name := "truncate", desc := "(I)Z" } : Jvm.MethodName)) ∈ lw_tbl := List.mem_of_getElem? (i := 1837) (by decide +kernel)
theorem tm_1838 : (Jvm.Cond.code ({ cls := "MemoryCourtModel", name := "truncate", desc := "(I)Z" } : Jvm.MethodName) prog_11_method_105_code (2 : Nat) (Option.some Jvm.ClassFile.FieldType.boolean)) ∈ lw_tbl := List.mem_of_getElem? (i := 1838) (by decide +kernel)
theorem tm_434 : (Jvm.Cond.methodLink "MemoryCourtLaw" (126 : Nat) ({ cls := "MemoryCourt", name := "parse", desc := "()I" } : Jvm.MethodName)) ∈ lw_tbl := List.mem_of_getElem? (i := 434) (by decide +kernel)
theorem tm_435 : (Jvm.Cond.instanceMethod ({ cls := "MemoryCourt", name := "parse", desc := "()I" } : Jvm.MethodName)) ∈ lw_tbl := List.mem_of_getElem? (i := 435) (by decide +kernel)
theorem tm_436 : (Jvm.Cond.selects "MemoryCourt" ({ cls := "MemoryCourt", name := "parse", desc := "()I" } : Jvm.MethodName) ({ cls := "MemoryCourt", name := "parse", desc := "()I" } : Jvm.MethodName)) ∈ lw_tbl := List.mem_of_getElem? (i := 436) (by decide +kernel)
theorem tm_437 : (Jvm.Cond.code ({ cls := "MemoryCourt", name := "parse", desc := "()I" } : Jvm.MethodName) prog_1_method_4_code (2 : Nat) (Option.some Jvm.ClassFile.FieldType.int)) ∈ lw_tbl := List.mem_of_getElem? (i := 437) (by decide +kernel)
theorem tm_1839 : (Jvm.Cond.methodLink "MemoryCourtLaw" (129 : Nat) ({ cls := "MemoryCourtModel", name := "parse", desc := "()I" } : Jvm.MethodName)) ∈ lw_tbl := List.mem_of_getElem? (i := 1839) (by decide +kernel)
theorem tm_1840 : (Jvm.Cond.instanceMethod ({ cls := "MemoryCourtModel", name := "parse", desc := "()I" } : Jvm.MethodName)) ∈ lw_tbl := List.mem_of_getElem? (i := 1840) (by decide +kernel)
theorem tm_1841 : (Jvm.Cond.selects "MemoryCourtModel" ({ cls := "MemoryCourtModel", name := "parse", desc := "()I" } : Jvm.MethodName) ({ cls := "MemoryCourtModel", name := "parse", desc := "()I" } : Jvm.MethodName)) ∈ lw_tbl := List.mem_of_getElem? (i := 1841) (by decide +kernel)
theorem tm_1842 : (Jvm.Cond.code ({ cls := "MemoryCourtModel", name := "parse", desc := "()I" } : Jvm.MethodName) prog_11_method_124_code (1 : Nat) (Option.some Jvm.ClassFile.FieldType.int)) ∈ lw_tbl := List.mem_of_getElem? (i := 1842) (by decide +kernel)
theorem tm_632 : (Jvm.Cond.methodLink "MemoryCourtLaw" (130 : Nat) ({ cls := "MemoryCourt", name := "errorCode", desc := "()I" } : Jvm.MethodName)) ∈ lw_tbl := List.mem_of_getElem? (i := 632) (by decide +kernel)
theorem tm_633 : (Jvm.Cond.instanceMethod ({ cls := "MemoryCourt", name := "errorCode", desc := "()I" } : Jvm.MethodName)) ∈ lw_tbl := List.mem_of_getElem? (i := 633) (by decide +kernel)
theorem tm_634 : (Jvm.Cond.selects "MemoryCourt" ({ cls := "MemoryCourt", name := "errorCode", desc := "()I" } : Jvm.MethodName) ({ cls := "MemoryCourt", name := "errorCode", desc := "()I" } : Jvm.MethodName)) ∈ lw_tbl := List.mem_of_getElem? (i := 634) (by decide +kernel)
theorem tm_635 : (Jvm.Cond.code ({ cls := "MemoryCourt", name := "errorCode", desc := "()I" } : Jvm.MethodName) prog_1_method_5_code (1 : Nat) (Option.some Jvm.ClassFile.FieldType.int)) ∈ lw_tbl := List.mem_of_getElem? (i := 635) (by decide +kernel)
theorem tm_1925 : (Jvm.Cond.methodLink "MemoryCourtLaw" (133 : Nat) ({ cls := "MemoryCourtModel", name := "errorCode", desc := "()I" } : Jvm.MethodName)) ∈ lw_tbl := List.mem_of_getElem? (i := 1925) (by decide +kernel)
theorem tm_1926 : (Jvm.Cond.instanceMethod ({ cls := "MemoryCourtModel", name := "errorCode", desc := "()I" } : Jvm.MethodName)) ∈ lw_tbl := List.mem_of_getElem? (i := 1926) (by decide +kernel)
theorem tm_1927 : (Jvm.Cond.selects "MemoryCourtModel" ({ cls := "MemoryCourtModel", name := "errorCode", desc := "()I" } : Jvm.MethodName) ({ cls := "MemoryCourtModel", name := "errorCode", desc := "()I" } : Jvm.MethodName)) ∈ lw_tbl := List.mem_of_getElem? (i := 1927) (by decide +kernel)
theorem tm_1928 : (Jvm.Cond.code ({ cls := "MemoryCourtModel", name := "errorCode", desc := "()I" } : Jvm.MethodName) prog_11_method_125_code (1 : Nat) (Option.some Jvm.ClassFile.FieldType.int)) ∈ lw_tbl := List.mem_of_getElem? (i := 1928) (by decide +kernel)
theorem tm_636 : (Jvm.Cond.methodLink "MemoryCourtLaw" (134 : Nat) ({ cls := "MemoryCourt", name := "errorOffset", desc := "()I" } : Jvm.MethodName)) ∈ lw_tbl := List.mem_of_getElem? (i := 636) (by decide +kernel)
theorem tm_637 : (Jvm.Cond.instanceMethod ({ cls := "MemoryCourt", name := "errorOffset", desc := "()I" } : Jvm.MethodName)) ∈ lw_tbl := List.mem_of_getElem? (i := 637) (by decide +kernel)
theorem tm_638 : (Jvm.Cond.selects "MemoryCourt" ({ cls := "MemoryCourt", name := "errorOffset", desc := "()I" } : Jvm.MethodName) ({ cls := "MemoryCourt", name := "errorOffset", desc := "()I" } : Jvm.MethodName)) ∈ lw_tbl := List.mem_of_getElem? (i := 638) (by decide +kernel)
theorem tm_639 : (Jvm.Cond.code ({ cls := "MemoryCourt", name := "errorOffset", desc := "()I" } : Jvm.MethodName) prog_1_method_6_code (1 : Nat) (Option.some Jvm.ClassFile.FieldType.int)) ∈ lw_tbl := List.mem_of_getElem? (i := 639) (by decide +kernel)
theorem tm_1929 : (Jvm.Cond.methodLink "MemoryCourtLaw" (137 : Nat) ({ cls := "MemoryCourtModel", name := "errorOffset", desc := "()I" } : Jvm.MethodName)) ∈ lw_tbl := List.mem_of_getElem? (i := 1929) (by decide +kernel)
theorem tm_1930 : (Jvm.Cond.instanceMethod ({ cls := "MemoryCourtModel", name := "errorOffset", desc := "()I" } : Jvm.MethodName)) ∈ lw_tbl := List.mem_of_getElem? (i := 1930) (by decide +kernel)
theorem tm_1931 : (Jvm.Cond.selects "MemoryCourtModel" ({ cls := "MemoryCourtModel", name := "errorOffset", desc := "()I" } : Jvm.MethodName) ({ cls := "MemoryCourtModel", name := "errorOffset", desc := "()I" } : Jvm.MethodName)) ∈ lw_tbl := List.mem_of_getElem? (i := 1931) (by decide +kernel)
theorem tm_1932 : (Jvm.Cond.code ({ cls := "MemoryCourtModel", name := "errorOffset", desc := "()I" } : Jvm.MethodName) prog_11_method_126_code (1 : Nat) (Option.some Jvm.ClassFile.FieldType.int)) ∈ lw_tbl := List.mem_of_getElem? (i := 1932) (by decide +kernel)
theorem tm_640 : (Jvm.Cond.methodLink "MemoryCourtLaw" (138 : Nat) ({ cls := "MemoryCourt", name := "count", desc := "(I)I" } : Jvm.MethodName)) ∈ lw_tbl := List.mem_of_getElem? (i := 640) (by decide +kernel)
theorem tm_641 : (Jvm.Cond.instanceMethod ({ cls := "MemoryCourt", name := "count", desc := "(I)I" } : Jvm.MethodName)) ∈ lw_tbl := List.mem_of_getElem? (i := 641) (by decide +kernel)
theorem tm_642 : (Jvm.Cond.selects "MemoryCourt" ({ cls := "MemoryCourt", name := "count", desc := "(I)I" } : Jvm.MethodName) ({ cls := "MemoryCourt", name := "count", desc := "(I)I" } : Jvm.MethodName)) ∈ lw_tbl := List.mem_of_getElem? (i := 642) (by decide +kernel)
theorem tm_643 : (Jvm.Cond.code ({ cls := "MemoryCourt", name := "count", desc := "(I)I" } : Jvm.MethodName) prog_1_method_7_code (2 : Nat) (Option.some Jvm.ClassFile.FieldType.int)) ∈ lw_tbl := List.mem_of_getElem? (i := 643) (by decide +kernel)
theorem tm_1676 : (Jvm.Cond.methodLink "MemoryCourtLaw" (141 : Nat) ({ cls := "MemoryCourtModel", name := "count", desc := "(I)I" } : Jvm.MethodName)) ∈ lw_tbl := List.mem_of_getElem? (i := 1676) (by decide +kernel)
theorem tm_1677 : (Jvm.Cond.instanceMethod ({ cls := "MemoryCourtModel", name := "count", desc := "(I)I" } : Jvm.MethodName)) ∈ lw_tbl := List.mem_of_getElem? (i := 1677) (by decide +kernel)
theorem tm_1678 : (Jvm.Cond.selects "MemoryCourtModel" ({ cls := "MemoryCourtModel", name := "count", desc := "(I)I" } : Jvm.MethodName) ({ cls := "MemoryCourtModel", name := "count", desc := "(I)I" } : Jvm.MethodName)) ∈ lw_tbl := List.mem_of_getElem? (i := 1678) (by decide +kernel)
theorem tm_1679 : (Jvm.Cond.code ({ cls := "MemoryCourtModel", name := "count", desc := "(I)I" } : Jvm.MethodName) prog_11_method_69_code (2 : Nat) (Option.some Jvm.ClassFile.FieldType.int)) ∈ lw_tbl := List.mem_of_getElem? (i := 1679) (by decide +kernel)
theorem tm_669 : (Jvm.Cond.methodLink "MemoryCourtLaw" (142 : Nat) ({ cls := "MemoryCourt", name := "find", desc := "()I" } : Jvm.MethodName)) ∈ lw_tbl := List.mem_of_getElem? (i := 669) (by decide +kernel)
theorem tm_670 : (Jvm.Cond.instanceMethod ({ cls := "MemoryCourt", name := "find", desc := "()I" } : Jvm.MethodName)) ∈ lw_tbl := List.mem_of_getElem? (i := 670) (by decide +kernel)
theorem tm_671 : (Jvm.Cond.selects "MemoryCourt" ({ cls := "MemoryCourt", name := "find", desc := "()I" } : Jvm.MethodName) ({ cls := "MemoryCourt", name := "find", desc := "()I" } : Jvm.MethodName)) ∈ lw_tbl := List.mem_of_getElem? (i := 671) (by decide +kernel)
theorem tm_672 : (Jvm.Cond.code ({ cls := "MemoryCourt", name := "find", desc := "()I" } : Jvm.MethodName) prog_1_method_8_code (2 : Nat) (Option.some Jvm.ClassFile.FieldType.int)) ∈ lw_tbl := List.mem_of_getElem? (i := 672) (by decide +kernel)
theorem tm_1933 : (Jvm.Cond.methodLink "MemoryCourtLaw" (145 : Nat) ({ cls := "MemoryCourtModel", name := "find", desc := "()I" } : Jvm.MethodName)) ∈ lw_tbl := List.mem_of_getElem? (i := 1933) (by decide +kernel)
theorem tm_1934 : (Jvm.Cond.instanceMethod ({ cls := "MemoryCourtModel", name := "find", desc := "()I" } : Jvm.MethodName)) ∈ lw_tbl := List.mem_of_getElem? (i := 1934) (by decide +kernel)
theorem tm_1935 : (Jvm.Cond.selects "MemoryCourtModel" ({ cls := "MemoryCourtModel", name := "find", desc := "()I" } : Jvm.MethodName) ({ cls := "MemoryCourtModel", name := "find", desc := "()I" } : Jvm.MethodName)) ∈ lw_tbl := List.mem_of_getElem? (i := 1935) (by decide +kernel)
theorem tm_1936 : (Jvm.Cond.code ({ cls := "MemoryCourtModel", name := "find", desc := "()I" } : Jvm.MethodName) prog_11_method_127_code (5 : Nat) (Option.some Jvm.ClassFile.FieldType.int)) ∈ lw_tbl := List.mem_of_getElem? (i := 1936) (by decide +kernel)
theorem tm_749 : (Jvm.Cond.methodLink "MemoryCourtLaw" (146 : Nat) ({ cls := "MemoryCourtLaw", name := "process", desc := "(LMemoryCourt;II[J)I" } : Jvm.MethodName)) ∈ lw_tbl := List.mem_of_getElem? (i := 749) (by decide +kernel)
theorem tm_750 : (Jvm.Cond.static ({ cls := "MemoryCourtLaw", name := "process", desc := "(LMemoryCourt;II[J)I" } : Jvm.MethodName)) ∈ lw_tbl := List.mem_of_getElem? (i := 750) (by decide +kernel)
theorem tm_107 : (Jvm.Cond.initialized "MemoryCourtLaw") ∈ lw_tbl := List.mem_of_getElem? (i := 107) (by decide +kernel)
theorem tm_751 : (Jvm.Cond.codeWith ({ cls := "MemoryCourtLaw", name := "process", desc := "(LMemoryCourt;II[J)I" } : Jvm.MethodName) method_3_code (5 : Nat) (Option.some Jvm.ClassFile.FieldType.int) [((0 : Nat), (10 : Nat), (13 : Nat), (13 : Nat))]) ∈ lw_tbl := List.mem_of_getElem? (i := 751) (by decide +kernel)
theorem tm_1688 : (Jvm.Cond.methodLink "MemoryCourtLaw" (151 : Nat) ({ cls := "MemoryCourtModel", name := "process", desc := "(II)I" } : Jvm.MethodName)) ∈ lw_tbl := List.mem_of_getElem? (i := 1688) (by decide +kernel)
theorem tm_1689 : (Jvm.Cond.instanceMethod ({ cls := "MemoryCourtModel", name := "process", desc := "(II)I" } : Jvm.MethodName)) ∈ lw_tbl := List.mem_of_getElem? (i := 1689) (by decide +kernel)
theorem tm_1690 : (Jvm.Cond.selects "MemoryCourtModel" ({ cls := "MemoryCourtModel", name := "process", desc := "(II)I" } : Jvm.MethodName) ({ cls := "MemoryCourtModel", name := "process", desc := "(II)I" } : Jvm.MethodName)) ∈ lw_tbl := List.mem_of_getElem? (i := 1690) (by decide +kernel)
theorem tm_1691 : (Jvm.Cond.code ({ cls := "MemoryCourtModel", name := "process", desc := "(II)I" } : Jvm.MethodName) prog_11_method_73_code (3 : Nat) (Option.some Jvm.ClassFile.FieldType.int)) ∈ lw_tbl := List.mem_of_getElem? (i := 1691) (by decide +kernel)
theorem tm_1442 : (Jvm.Cond.methodLink "MemoryCourtLaw" (152 : Nat) ({ cls := "MemoryCourtModel", name := "thrown", desc := "()I" } : Jvm.MethodName)) ∈ lw_tbl := List.mem_of_getElem? (i := 1442) (by decide +kernel)
theorem tm_1443 : (Jvm.Cond.instanceMethod ({ cls := "MemoryCourtModel", name := "thrown", desc := "()I" } : Jvm.MethodName)) ∈ lw_tbl := List.mem_of_getElem? (i := 1443) (by decide +kernel)
theorem tm_1444 : (Jvm.Cond.selects "MemoryCourtModel" ({ cls := "MemoryCourtModel", name := "thrown", desc := "()I" } : Jvm.MethodName) ({ cls := "MemoryCourtModel", name := "thrown", desc := "()I" } : Jvm.MethodName)) ∈ lw_tbl := List.mem_of_getElem? (i := 1444) (by decide +kernel)
theorem tm_1445 : (Jvm.Cond.code ({ cls := "MemoryCourtModel", name := "thrown", desc := "()I" } : Jvm.MethodName) prog_11_method_2_code (1 : Nat) (Option.some Jvm.ClassFile.FieldType.int)) ∈ lw_tbl := List.mem_of_getElem? (i := 1445) (by decide +kernel)
theorem tm_835 : (Jvm.Cond.methodLink "MemoryCourtLaw" (155 : Nat) ({ cls := "MemoryCourtLaw", name := "loan", desc := "(LMemoryCourt;II[J)I" } : Jvm.MethodName)) ∈ lw_tbl := List.mem_of_getElem? (i := 835) (by decide +kernel)
theorem tm_836 : (Jvm.Cond.static ({ cls := "MemoryCourtLaw", name := "loan", desc := "(LMemoryCourt;II[J)I" } : Jvm.MethodName)) ∈ lw_tbl := List.mem_of_getElem? (i := 836) (by decide +kernel)
theorem tm_837 : (Jvm.Cond.codeWith ({ cls := "MemoryCourtLaw", name := "loan", desc := "(LMemoryCourt;II[J)I" } : Jvm.MethodName) method_4_code (5 : Nat) (Option.some Jvm.ClassFile.FieldType.int) [((0 : Nat), (10 : Nat), (13 : Nat), (13 : Nat))]) ∈ lw_tbl := List.mem_of_getElem? (i := 837) (by decide +kernel)
theorem tm_1705 : (Jvm.Cond.methodLink "MemoryCourtLaw" (157 : Nat) ({ cls := "MemoryCourtModel", name := "loan", desc := "(II)I" } : Jvm.MethodName)) ∈ lw_tbl := List.mem_of_getElem? (i := 1705) (by decide +kernel)
theorem tm_1706 : (Jvm.Cond.instanceMethod ({ cls := "MemoryCourtModel", name := "loan", desc := "(II)I" } : Jvm.MethodName)) ∈ lw_tbl := List.mem_of_getElem? (i := 1706) (by decide +kernel)
theorem tm_1707 : (Jvm.Cond.selects "MemoryCourtModel" ({ cls := "MemoryCourtModel", name := "loan", desc := "(II)I" } : Jvm.MethodName) ({ cls := "MemoryCourtModel", name := "loan", desc := "(II)I" } : Jvm.MethodName)) ∈ lw_tbl := List.mem_of_getElem? (i := 1707) (by decide +kernel)
theorem tm_1708 : (Jvm.Cond.code ({ cls := "MemoryCourtModel", name := "loan", desc := "(II)I" } : Jvm.MethodName) prog_11_method_74_code (3 : Nat) (Option.some Jvm.ClassFile.FieldType.int)) ∈ lw_tbl := List.mem_of_getElem? (i := 1708) (by decide +kernel)
theorem tm_849 : (Jvm.Cond.methodLink "MemoryCourtLaw" (158 : Nat) ({ cls := "MemoryCourtLaw", name := "page", desc := "(LMemoryCourt;I[J)I" } : Jvm.MethodName)) ∈ lw_tbl := List.mem_of_getElem? (i := 849) (by decide +kernel)
theorem tm_850 : (Jvm.Cond.static ({ cls := "MemoryCourtLaw", name := "page", desc := "(LMemoryCourt;I[J)I" } : Jvm.MethodName)) ∈ lw_tbl := List.mem_of_getElem? (i := 850) (by decide +kernel)
theorem tm_851 : (Jvm.Cond.codeWith ({ cls := "MemoryCourtLaw", name := "page", desc := "(LMemoryCourt;I[J)I" } : Jvm.MethodName) method_5_code (4 : Nat) (Option.some Jvm.ClassFile.FieldType.int) [((0 : Nat), (9 : Nat), (12 : Nat), (13 : Nat))]) ∈ lw_tbl := List.mem_of_getElem? (i := 851) (by decide +kernel)
theorem tm_1710 : (Jvm.Cond.methodLink "MemoryCourtLaw" (161 : Nat) ({ cls := "MemoryCourtModel", name := "page", desc := "(I)I" } : Jvm.MethodName)) ∈ lw_tbl := List.mem_of_getElem? (i := 1710) (by decide +kernel)
theorem tm_1711 : (Jvm.Cond.instanceMethod ({ cls := "MemoryCourtModel", name := "page", desc := "(I)I" } : Jvm.MethodName)) ∈ lw_tbl := List.mem_of_getElem? (i := 1711) (by decide +kernel)
theorem tm_1712 : (Jvm.Cond.selects "MemoryCourtModel" ({ cls := "MemoryCourtModel", name := "page", desc := "(I)I" } : Jvm.MethodName) ({ cls := "MemoryCourtModel", name := "page", desc := "(I)I" } : Jvm.MethodName)) ∈ lw_tbl := List.mem_of_getElem? (i := 1712) (by decide +kernel)
theorem tm_1713 : (Jvm.Cond.code ({ cls := "MemoryCourtModel", name := "page", desc := "(I)I" } : Jvm.MethodName) prog_11_method_75_code (2 : Nat) (Option.some Jvm.ClassFile.FieldType.int)) ∈ lw_tbl := List.mem_of_getElem? (i := 1713) (by decide +kernel)
theorem tm_861 : (Jvm.Cond.methodLink "MemoryCourtLaw" (162 : Nat) ({ cls := "MemoryCourtLaw", name := "pageOf", desc := "(LMemoryCourt;II[J)I" } : Jvm.MethodName)) ∈ lw_tbl := List.mem_of_getElem? (i := 861) (by decide +kernel)
theorem tm_862 : (Jvm.Cond.static ({ cls := "MemoryCourtLaw", name := "pageOf", desc := "(LMemoryCourt;II[J)I" } : Jvm.MethodName)) ∈ lw_tbl := List.mem_of_getElem? (i := 862) (by decide +kernel)
theorem tm_863 : (Jvm.Cond.codeWith ({ cls := "MemoryCourtLaw", name := "pageOf", desc := "(LMemoryCourt;II[J)I" } : Jvm.MethodName) method_6_code (5 : Nat) (Option.some Jvm.ClassFile.FieldType.int) [((0 : Nat), (10 : Nat), (13 : Nat), (13 : Nat)), ((0 : Nat), (10 : Nat), (17 : Nat), (25 : Nat))]) ∈ lw_tbl := List.mem_of_getElem? (i := 863) (by decide +kernel)
theorem tm_1714 : (Jvm.Cond.methodLink "MemoryCourtLaw" (164 : Nat) ({ cls := "MemoryCourtModel", name := "pageOf", desc := "(II)I" } : Jvm.MethodName)) ∈ lw_tbl := List.mem_of_getElem? (i := 1714) (by decide +kernel)
theorem tm_1715 : (Jvm.Cond.instanceMethod ({ cls := "MemoryCourtModel", name := "pageOf", desc := "(II)I" } : Jvm.MethodName)) ∈ lw_tbl := List.mem_of_getElem? (i := 1715) (by decide +kernel)
theorem tm_1716 : (Jvm.Cond.selects "MemoryCourtModel" ({ cls := "MemoryCourtModel", name := "pageOf", desc := "(II)I" } : Jvm.MethodName) ({ cls := "MemoryCourtModel", name := "pageOf", desc := "(II)I" } : Jvm.MethodName)) ∈ lw_tbl := List.mem_of_getElem? (i := 1716) (by decide +kernel)
theorem tm_1717 : (Jvm.Cond.code ({ cls := "MemoryCourtModel", name := "pageOf", desc := "(II)I" } : Jvm.MethodName) prog_11_method_76_code (5 : Nat) (Option.some Jvm.ClassFile.FieldType.int)) ∈ lw_tbl := List.mem_of_getElem? (i := 1717) (by decide +kernel)
theorem tm_889 : (Jvm.Cond.methodLink "MemoryCourtLaw" (165 : Nat) ({ cls := "MemoryCourtLaw", name := "pieces", desc := "(LMemoryCourt;I[J)I" } : Jvm.MethodName)) ∈ lw_tbl := List.mem_of_getElem? (i := 889) (by decide +kernel)
theorem tm_890 : (Jvm.Cond.static ({ cls := "MemoryCourtLaw", name := "pieces", desc := "(LMemoryCourt;I[J)I" } : Jvm.MethodName)) ∈ lw_tbl := List.mem_of_getElem? (i := 890) (by decide +kernel)
theorem tm_891 : (Jvm.Cond.codeWith ({ cls := "MemoryCourtLaw", name := "pieces", desc := "(LMemoryCourt;I[J)I" } : Jvm.MethodName) method_7_code (4 : Nat) (Option.some Jvm.ClassFile.FieldType.int) [((0 : Nat), (9 : Nat), (12 : Nat), (13 : Nat))]) ∈ lw_tbl := List.mem_of_getElem? (i := 891) (by decide +kernel)
theorem tm_1718 : (Jvm.Cond.methodLink "MemoryCourtLaw" (167 : Nat) ({ cls := "MemoryCourtModel", name := "pieces", desc := "(I)I" } : Jvm.MethodName)) ∈ lw_tbl := List.mem_of_getElem? (i := 1718) (by decide +kernel)
theorem tm_1719 : (Jvm.Cond.instanceMethod ({ cls := "MemoryCourtModel", name := "pieces", desc := "(I)I" } : Jvm.MethodName)) ∈ lw_tbl := List.mem_of_getElem? (i := 1719) (by decide +kernel)
theorem tm_1720 : (Jvm.Cond.selects "MemoryCourtModel" ({ cls := "MemoryCourtModel", name := "pieces", desc := "(I)I" } : Jvm.MethodName) ({ cls := "MemoryCourtModel", name := "pieces", desc := "(I)I" } : Jvm.MethodName)) ∈ lw_tbl := List.mem_of_getElem? (i := 1720) (by decide +kernel)
theorem tm_1721 : (Jvm.Cond.code ({ cls := "MemoryCourtModel", name := "pieces", desc := "(I)I" } : Jvm.MethodName) prog_11_method_77_code (4 : Nat) (Option.some Jvm.ClassFile.FieldType.int)) ∈ lw_tbl := List.mem_of_getElem? (i := 1721) (by decide +kernel)
theorem tm_674 : (Jvm.Cond.methodLink "MemoryCourtLaw" (168 : Nat) ({ cls := "MemoryCourt", name := "longestFree", desc := "()I" } : Jvm.MethodName)) ∈ lw_tbl := List.mem_of_getElem? (i := 674) (by decide +kernel)
theorem tm_675 : (Jvm.Cond.instanceMethod ({ cls := "MemoryCourt", name := "longestFree", desc := "()I" } : Jvm.MethodName)) ∈ lw_tbl := List.mem_of_getElem? (i := 675) (by decide +kernel)
theorem tm_676 : (Jvm.Cond.selects "MemoryCourt" ({ cls := "MemoryCourt", name := "longestFree", desc := "()I" } : Jvm.MethodName) ({ cls := "MemoryCourt", name := "longestFree", desc := "()I" } : Jvm.MethodName)) ∈ lw_tbl := List.mem_of_getElem? (i := 676) (by decide +kernel)
theorem tm_677 : (Jvm.Cond.code ({ cls := "MemoryCourt", name := "longestFree", desc := "()I" } : Jvm.MethodName) prog_1_method_14_code (1 : Nat) (Option.some Jvm.ClassFile.FieldType.int)) ∈ lw_tbl := List.mem_of_getElem? (i := 677) (by decide +kernel)
theorem tm_1722 : (Jvm.Cond.methodLink "MemoryCourtLaw" (171 : Nat) ({ cls := "MemoryCourtModel", name := "longestFree", desc := "()I" } : Jvm.MethodName)) ∈ lw_tbl := List.mem_of_getElem? (i := 1722) (by decide +kernel)
theorem tm_1723 : (Jvm.Cond.instanceMethod ({ cls := "MemoryCourtModel", name := "longestFree", desc := "()I" } : Jvm.MethodName)) ∈ lw_tbl := List.mem_of_getElem? (i := 1723) (by decide +kernel)
theorem tm_1724 : (Jvm.Cond.selects "MemoryCourtModel" ({ cls := "MemoryCourtModel", name := "longestFree", desc := "()I" } : Jvm.MethodName) ({ cls := "MemoryCourtModel", name := "longestFree", desc := "()I" } : Jvm.MethodName)) ∈ lw_tbl := List.mem_of_getElem? (i := 1724) (by decide +kernel)
theorem tm_1725 : (Jvm.Cond.code ({ cls := "MemoryCourtModel", name := "longestFree", desc := "()I" } : Jvm.MethodName) prog_11_method_78_code (4 : Nat) (Option.some Jvm.ClassFile.FieldType.int)) ∈ lw_tbl := List.mem_of_getElem? (i := 1725) (by decide +kernel)
theorem tm_900 : (Jvm.Cond.methodLink "MemoryCourtLaw" (172 : Nat) ({ cls := "MemoryCourtLaw", name := "claim", desc := "(LMemoryCourt;II[J)I" } : Jvm.MethodName)) ∈ lw_tbl := List.mem_of_getElem? (i := 900) (by decide +kernel)
theorem tm_901 : (Jvm.Cond.static ({ cls := "MemoryCourtLaw", name := "claim", desc := "(LMemoryCourt;II[J)I" } : Jvm.MethodName)) ∈ lw_tbl := List.mem_of_getElem? (i := 901) (by decide +kernel)
theorem tm_902 : (Jvm.Cond.codeWith ({ cls := "MemoryCourtLaw", name := "claim", desc := "(LMemoryCourt;II[J)I" } : Jvm.MethodName) method_8_code (5 : Nat) (Option.some Jvm.ClassFile.FieldType.int) [((0 : Nat), (10 : Nat), (13 : Nat), (13 : Nat))]) ∈ lw_tbl := List.mem_of_getElem? (i := 902) (by decide +kernel)
theorem tm_1726 : (Jvm.Cond.methodLink "MemoryCourtLaw" (174 : Nat) ({ cls := "MemoryCourtModel", name := "claim", desc := "(II)I" } : Jvm.MethodName)) ∈ lw_tbl := List.mem_of_getElem? (i := 1726) (by decide +kernel)
theorem tm_1727 : (Jvm.Cond.instanceMethod ({ cls := "MemoryCourtModel", name := "claim", desc := "(II)I" } : Jvm.MethodName)) ∈ lw_tbl := List.mem_of_getElem? (i := 1727) (by decide +kernel)
theorem tm_1728 : (Jvm.Cond.selects "MemoryCourtModel" ({ cls := "MemoryCourtModel", name := "claim", desc := "(II)I" } : Jvm.MethodName) ({ cls := "MemoryCourtModel", name := "claim", desc := "(II)I" } : Jvm.MethodName)) ∈ lw_tbl := List.mem_of_getElem? (i := 1728) (by decide +kernel)
theorem tm_1729 : (Jvm.Cond.code ({ cls := "MemoryCourtModel", name := "claim", desc := "(II)I" } : Jvm.MethodName) prog_11_method_79_code (3 : Nat) (Option.some Jvm.ClassFile.FieldType.int)) ∈ lw_tbl := List.mem_of_getElem? (i := 1729) (by decide +kernel)
theorem tm_913 : (Jvm.Cond.methodLink "MemoryCourtLaw" (175 : Nat) ({ cls := "MemoryCourtLaw", name := "waiting", desc := "(LMemoryCourt;I[J)I" } : Jvm.MethodName)) ∈ lw_tbl := List.mem_of_getElem? (i := 913) (by decide +kernel)
theorem tm_914 : (Jvm.Cond.static ({ cls := "MemoryCourtLaw", name := "waiting", desc := "(LMemoryCourt;I[J)I" } : Jvm.MethodName)) ∈ lw_tbl := List.mem_of_getElem? (i := 914) (by decide +kernel)
theorem tm_915 : (Jvm.Cond.codeWith ({ cls := "MemoryCourtLaw", name := "waiting", desc := "(LMemoryCourt;I[J)I" } : Jvm.MethodName) method_9_code (4 : Nat) (Option.some Jvm.ClassFile.FieldType.int) [((0 : Nat), (9 : Nat), (12 : Nat), (25 : Nat))]) ∈ lw_tbl := List.mem_of_getElem? (i := 915) (by decide +kernel)
theorem tm_1731 : (Jvm.Cond.methodLink "MemoryCourtLaw" (177 : Nat) ({ cls := "MemoryCourtModel", name := "waiting", desc := "(I)I" } : Jvm.MethodName)) ∈ lw_tbl := List.mem_of_getElem? (i := 1731) (by decide +kernel)
theorem tm_1732 : (Jvm.Cond.instanceMethod ({ cls := "MemoryCourtModel", name := "waiting", desc := "(I)I" } : Jvm.MethodName)) ∈ lw_tbl := List.mem_of_getElem? (i := 1732) (by decide +kernel)
theorem tm_1733 : (Jvm.Cond.selects "MemoryCourtModel" ({ cls := "MemoryCourtModel", name := "waiting", desc := "(I)I" } : Jvm.MethodName) ({ cls := "MemoryCourtModel", name := "waiting", desc := "(I)I" } : Jvm.MethodName)) ∈ lw_tbl := List.mem_of_getElem? (i := 1733) (by decide +kernel)
theorem tm_1734 : (Jvm.Cond.code ({ cls := "MemoryCourtModel", name := "waiting", desc := "(I)I" } : Jvm.MethodName) prog_11_method_80_code (3 : Nat) (Option.some Jvm.ClassFile.FieldType.int)) ∈ lw_tbl := List.mem_of_getElem? (i := 1734) (by decide +kernel)
theorem tm_933 : (Jvm.Cond.methodLink "MemoryCourtLaw" (178 : Nat) ({ cls := "MemoryCourtLaw", name := "fine", desc := "(LMemoryCourt;II[J)I" } : Jvm.MethodName)) ∈ lw_tbl := List.mem_of_getElem? (i := 933) (by decide +kernel)
theorem tm_934 : (Jvm.Cond.static ({ cls := "MemoryCourtLaw", name := "fine", desc := "(LMemoryCourt;II[J)I" } : Jvm.MethodName)) ∈ lw_tbl := List.mem_of_getElem? (i := 934) (by decide +kernel)
theorem tm_935 : (Jvm.Cond.codeWith ({ cls := "MemoryCourtLaw", name := "fine", desc := "(LMemoryCourt;II[J)I" } : Jvm.MethodName) method_10_code (5 : Nat) (Option.some Jvm.ClassFile.FieldType.int) [((0 : Nat), (10 : Nat), (13 : Nat), (39 : Nat)), ((0 : Nat), (10 : Nat), (17 : Nat), (25 : Nat))]) ∈ lw_tbl := List.mem_of_getElem? (i := 935) (by decide +kernel)
theorem tm_1735 : (Jvm.Cond.methodLink "MemoryCourtLaw" (180 : Nat) ({ cls := "MemoryCourtModel", name := "fine", desc := "(II)I" } : Jvm.MethodName)) ∈ lw_tbl := List.mem_of_getElem? (i := 1735) (by decide +kernel)
theorem tm_1736 : (Jvm.Cond.instanceMethod ({ cls := "MemoryCourtModel", name := "fine", desc := "(II)I" } : Jvm.MethodName)) ∈ lw_tbl := List.mem_of_getElem? (i := 1736) (by decide +kernel)
theorem tm_1737 : (Jvm.Cond.selects "MemoryCourtModel" ({ cls := "MemoryCourtModel", name := "fine", desc := "(II)I" } : Jvm.MethodName) ({ cls := "MemoryCourtModel", name := "fine", desc := "(II)I" } : Jvm.MethodName)) ∈ lw_tbl := List.mem_of_getElem? (i := 1737) (by decide +kernel)
theorem tm_1738 : (Jvm.Cond.code ({ cls := "MemoryCourtModel", name := "fine", desc := "(II)I" } : Jvm.MethodName) prog_11_method_81_code (3 : Nat) (Option.some Jvm.ClassFile.FieldType.int)) ∈ lw_tbl := List.mem_of_getElem? (i := 1738) (by decide +kernel)
theorem vl_L_116 : VL RL 116 RX8 yX8_feed cX8_feed 6 (some .int) 5 := ⟨⟨tm_418, tm_419, tm_420, tm_108, tm_421⟩, by decide +kernel⟩
theorem vl_L_120 : VL RL 120 RX9 yX9_feed cX9_feed 8 (some .int) 5 := ⟨⟨tm_1831, tm_1832, tm_1833, tm_119, tm_1834⟩, by decide +kernel⟩
theorem vl_L_121 : VL RL 121 RX8 yX8_truncate cX8_truncate 2 (some .boolean) 1 := ⟨⟨tm_430, tm_431, tm_432, tm_108, tm_433⟩, by decide +kernel⟩
theorem vl_L_125 : VL RL 125 RX9 yX9_truncate cX9_truncate 2 (some .boolean) 1 := ⟨⟨tm_1835, tm_1836, tm_1837, tm_119, tm_1838⟩, by decide +kernel⟩
theorem vl_L_126 : VL RL 126 RX8 yX8_parse cX8_parse 2 (some .int) 0 := ⟨⟨tm_434, tm_435, tm_436, tm_108, tm_437⟩, by decide +kernel⟩
theorem vl_L_129 : VL RL 129 RX9 yX9_parse cX9_parse 1 (some .int) 0 := ⟨⟨tm_1839, tm_1840, tm_1841, tm_119, tm_1842⟩, by decide +kernel⟩
theorem vl_L_130 : VL RL 130 RX8 yX8_errorCode cX8_errorCode 1 (some .int) 0 := ⟨⟨tm_632, tm_633, tm_634, tm_108, tm_635⟩, by decide +kernel⟩
theorem vl_L_133 : VL RL 133 RX9 yX9_errorCode cX9_errorCode 1 (some .int) 0 := ⟨⟨tm_1925, tm_1926, tm_1927, tm_119, tm_1928⟩, by decide +kernel⟩
theorem vl_L_134 : VL RL 134 RX8 yX8_errorOffset cX8_errorOffset 1 (some .int) 0 := ⟨⟨tm_636, tm_637, tm_638, tm_108, tm_639⟩, by decide +kernel⟩
theorem vl_L_137 : VL RL 137 RX9 yX9_errorOffset cX9_errorOffset 1 (some .int) 0 := ⟨⟨tm_1929, tm_1930, tm_1931, tm_119, tm_1932⟩, by decide +kernel⟩
theorem vl_L_138 : VL RL 138 RX8 yX8_count cX8_count 2 (some .int) 1 := ⟨⟨tm_640, tm_641, tm_642, tm_108, tm_643⟩, by decide +kernel⟩
theorem vl_L_141 : VL RL 141 RX9 yX9_count cX9_count 2 (some .int) 1 := ⟨⟨tm_1676, tm_1677, tm_1678, tm_119, tm_1679⟩, by decide +kernel⟩
theorem vl_L_142 : VL RL 142 RX8 yX8_find cX8_find 2 (some .int) 0 := ⟨⟨tm_669, tm_670, tm_671, tm_108, tm_672⟩, by decide +kernel⟩
theorem vl_L_145 : VL RL 145 RX9 yX9_find cX9_find 5 (some .int) 0 := ⟨⟨tm_1933, tm_1934, tm_1935, tm_119, tm_1936⟩, by decide +kernel⟩
theorem sw_146 : SWL RL 146 yL_process cL_process 5 (some .int) [(0, 10, 13, 13)] 4 := ⟨⟨tm_749, tm_750, tm_107, tm_751⟩, by decide +kernel⟩
theorem vl_L_151 : VL RL 151 RX9 yX9_process cX9_process 3 (some .int) 2 := ⟨⟨tm_1688, tm_1689, tm_1690, tm_119, tm_1691⟩, by decide +kernel⟩
theorem vl_L_152 : VL RL 152 RX9 yX9_thrown cX9_thrown 1 (some .int) 0 := ⟨⟨tm_1442, tm_1443, tm_1444, tm_119, tm_1445⟩, by decide +kernel⟩
theorem sw_155 : SWL RL 155 yL_loan cL_loan 5 (some .int) [(0, 10, 13, 13)] 4 := ⟨⟨tm_835, tm_836, tm_107, tm_837⟩, by decide +kernel⟩
theorem vl_L_157 : VL RL 157 RX9 yX9_loan cX9_loan 3 (some .int) 2 := ⟨⟨tm_1705, tm_1706, tm_1707, tm_119, tm_1708⟩, by decide +kernel⟩
theorem sw_158 : SWL RL 158 yL_page cL_page 4 (some .int) [(0, 9, 12, 13)] 3 := ⟨⟨tm_849, tm_850, tm_107, tm_851⟩, by decide +kernel⟩
theorem vl_L_161 : VL RL 161 RX9 yX9_page cX9_page 2 (some .int) 1 := ⟨⟨tm_1710, tm_1711, tm_1712, tm_119, tm_1713⟩, by decide +kernel⟩
theorem sw_162 : SWL RL 162 yL_pageOf cL_pageOf 5 (some .int) [(0, 10, 13, 13), (0, 10, 17, 25)] 4 := ⟨⟨tm_861, tm_862, tm_107, tm_863⟩, by decide +kernel⟩
theorem vl_L_164 : VL RL 164 RX9 yX9_pageOf cX9_pageOf 5 (some .int) 2 := ⟨⟨tm_1714, tm_1715, tm_1716, tm_119, tm_1717⟩, by decide +kernel⟩
theorem sw_165 : SWL RL 165 yL_pieces cL_pieces 4 (some .int) [(0, 9, 12, 13)] 3 := ⟨⟨tm_889, tm_890, tm_107, tm_891⟩, by decide +kernel⟩
theorem vl_L_167 : VL RL 167 RX9 yX9_pieces cX9_pieces 4 (some .int) 1 := ⟨⟨tm_1718, tm_1719, tm_1720, tm_119, tm_1721⟩, by decide +kernel⟩
theorem vl_L_168 : VL RL 168 RX8 yX8_longestFree cX8_longestFree 1 (some .int) 0 := ⟨⟨tm_674, tm_675, tm_676, tm_108, tm_677⟩, by decide +kernel⟩
theorem vl_L_171 : VL RL 171 RX9 yX9_longestFree cX9_longestFree 4 (some .int) 0 := ⟨⟨tm_1722, tm_1723, tm_1724, tm_119, tm_1725⟩, by decide +kernel⟩
theorem sw_172 : SWL RL 172 yL_claim cL_claim 5 (some .int) [(0, 10, 13, 13)] 4 := ⟨⟨tm_900, tm_901, tm_107, tm_902⟩, by decide +kernel⟩
theorem vl_L_174 : VL RL 174 RX9 yX9_claim cX9_claim 3 (some .int) 2 := ⟨⟨tm_1726, tm_1727, tm_1728, tm_119, tm_1729⟩, by decide +kernel⟩
theorem sw_175 : SWL RL 175 yL_waiting cL_waiting 4 (some .int) [(0, 9, 12, 25)] 3 := ⟨⟨tm_913, tm_914, tm_107, tm_915⟩, by decide +kernel⟩
theorem vl_L_177 : VL RL 177 RX9 yX9_waiting cX9_waiting 3 (some .int) 1 := ⟨⟨tm_1731, tm_1732, tm_1733, tm_119, tm_1734⟩, by decide +kernel⟩
theorem sw_178 : SWL RL 178 yL_fine cL_fine 5 (some .int) [(0, 10, 13, 39), (0, 10, 17, 25)] 4 := ⟨⟨tm_933, tm_934, tm_107, tm_935⟩, by decide +kernel⟩
theorem vl_L_180 : VL RL 180 RX9 yX9_fine cX9_fine 3 (some .int) 2 := ⟨⟨tm_1735, tm_1736, tm_1737, tm_119, tm_1738⟩, by decide +kernel⟩
theorem dL_law_244 : decode cL_law 244 = .ok (.aload_n 1, 1) := by decide +kernel
theorem dL_law_245 : decode cL_law 245 = .ok (.aload_n 0, 1) := by decide +kernel
theorem dL_law_246 : decode cL_law 246 = .ok (.iload 4, 2) := by decide +kernel
theorem dL_law_248 : decode cL_law 248 = .ok (.iconst 1, 1) := by decide +kernel
theorem dL_law_249 : decode cL_law 249 = .ok (.iadd, 1) := by decide +kernel
theorem dL_law_250 : decode cL_law 250 = .ok (.iaload, 1) := by decide +kernel
theorem dL_law_251 : decode cL_law 251 = .ok (.aload_n 0, 1) := by decide +kernel
theorem dL_law_252 : decode cL_law 252 = .ok (.iload 4, 2) := by decide +kernel
theorem dL_law_254 : decode cL_law 254 = .ok (.iconst 2, 1) := by decide +kernel
theorem dL_law_255 : decode cL_law 255 = .ok (.iadd, 1) := by decide +kernel
theorem dL_law_256 : decode cL_law 256 = .ok (.iaload, 1) := by decide +kernel
theorem dL_law_257 : decode cL_law 257 = .ok (.aload_n 0, 1) := by decide +kernel
theorem dL_law_258 : decode cL_law 258 = .ok (.iload 4, 2) := by decide +kernel
theorem dL_law_260 : decode cL_law 260 = .ok (.iconst 3, 1) := by decide +kernel
theorem dL_law_261 : decode cL_law 261 = .ok (.iadd, 1) := by decide +kernel
theorem dL_law_262 : decode cL_law 262 = .ok (.iaload, 1) := by decide +kernel
theorem dL_law_263 : decode cL_law 263 = .ok (.aload_n 0, 1) := by decide +kernel
theorem dL_law_264 : decode cL_law 264 = .ok (.iload 4, 2) := by decide +kernel
theorem dL_law_266 : decode cL_law 266 = .ok (.iconst 4, 1) := by decide +kernel
theorem dL_law_267 : decode cL_law 267 = .ok (.iadd, 1) := by decide +kernel
theorem dL_law_268 : decode cL_law 268 = .ok (.iaload, 1) := by decide +kernel
theorem dL_law_269 : decode cL_law 269 = .ok (.aload_n 0, 1) := by decide +kernel
theorem dL_law_270 : decode cL_law 270 = .ok (.iload 4, 2) := by decide +kernel
theorem dL_law_272 : decode cL_law 272 = .ok (.iconst 5, 1) := by decide +kernel
theorem dL_law_273 : decode cL_law 273 = .ok (.iadd, 1) := by decide +kernel
theorem dL_law_274 : decode cL_law 274 = .ok (.iaload, 1) := by decide +kernel
theorem dL_law_275 : decode cL_law 275 = .ok (.invokevirtual 116, 3) := by decide +kernel
theorem dL_law_278 : decode cL_law 278 = .ok (.aload_n 2, 1) := by decide +kernel
theorem dL_law_279 : decode cL_law 279 = .ok (.aload_n 0, 1) := by decide +kernel
theorem dL_law_280 : decode cL_law 280 = .ok (.iload 4, 2) := by decide +kernel
theorem dL_law_282 : decode cL_law 282 = .ok (.iconst 1, 1) := by decide +kernel
theorem dL_law_283 : decode cL_law 283 = .ok (.iadd, 1) := by decide +kernel
theorem dL_law_284 : decode cL_law 284 = .ok (.iaload, 1) := by decide +kernel
theorem dL_law_285 : decode cL_law 285 = .ok (.aload_n 0, 1) := by decide +kernel
theorem dL_law_286 : decode cL_law 286 = .ok (.iload 4, 2) := by decide +kernel
theorem dL_law_288 : decode cL_law 288 = .ok (.iconst 2, 1) := by decide +kernel
theorem dL_law_289 : decode cL_law 289 = .ok (.iadd, 1) := by decide +kernel
theorem dL_law_290 : decode cL_law 290 = .ok (.iaload, 1) := by decide +kernel
theorem dL_law_291 : decode cL_law 291 = .ok (.aload_n 0, 1) := by decide +kernel
theorem dL_law_292 : decode cL_law 292 = .ok (.iload 4, 2) := by decide +kernel
theorem dL_law_294 : decode cL_law 294 = .ok (.iconst 3, 1) := by decide +kernel
theorem dL_law_295 : decode cL_law 295 = .ok (.iadd, 1) := by decide +kernel
theorem dL_law_296 : decode cL_law 296 = .ok (.iaload, 1) := by decide +kernel
theorem dL_law_297 : decode cL_law 297 = .ok (.aload_n 0, 1) := by decide +kernel
theorem dL_law_298 : decode cL_law 298 = .ok (.iload 4, 2) := by decide +kernel
theorem dL_law_300 : decode cL_law 300 = .ok (.iconst 4, 1) := by decide +kernel
theorem dL_law_301 : decode cL_law 301 = .ok (.iadd, 1) := by decide +kernel
theorem dL_law_302 : decode cL_law 302 = .ok (.iaload, 1) := by decide +kernel
theorem dL_law_303 : decode cL_law 303 = .ok (.aload_n 0, 1) := by decide +kernel
theorem dL_law_304 : decode cL_law 304 = .ok (.iload 4, 2) := by decide +kernel
theorem dL_law_306 : decode cL_law 306 = .ok (.iconst 5, 1) := by decide +kernel
theorem dL_law_307 : decode cL_law 307 = .ok (.iadd, 1) := by decide +kernel
theorem dL_law_308 : decode cL_law 308 = .ok (.iaload, 1) := by decide +kernel
theorem dL_law_309 : decode cL_law 309 = .ok (.invokevirtual 120, 3) := by decide +kernel
theorem dL_law_312 : decode cL_law 312 = .ok (.if_icmp .eq 2162, 3) := by decide +kernel
theorem dL_law_315 : decode cL_law 315 = .ok (.iconst 0, 1) := by decide +kernel
theorem dL_law_316 : decode cL_law 316 = .ok (.ireturn, 1) := by decide +kernel
theorem dL_law_317 : decode cL_law 317 = .ok (.aload_n 1, 1) := by decide +kernel
theorem dL_law_318 : decode cL_law 318 = .ok (.aload_n 0, 1) := by decide +kernel
theorem dL_law_319 : decode cL_law 319 = .ok (.iload 4, 2) := by decide +kernel
theorem dL_law_321 : decode cL_law 321 = .ok (.iconst 1, 1) := by decide +kernel
theorem dL_law_322 : decode cL_law 322 = .ok (.iadd, 1) := by decide +kernel
theorem dL_law_323 : decode cL_law 323 = .ok (.iaload, 1) := by decide +kernel
theorem dL_law_324 : decode cL_law 324 = .ok (.invokevirtual 121, 3) := by decide +kernel
theorem dL_law_327 : decode cL_law 327 = .ok (.aload_n 2, 1) := by decide +kernel
theorem dL_law_328 : decode cL_law 328 = .ok (.aload_n 0, 1) := by decide +kernel
theorem dL_law_329 : decode cL_law 329 = .ok (.iload 4, 2) := by decide +kernel
theorem dL_law_331 : decode cL_law 331 = .ok (.iconst 1, 1) := by decide +kernel
theorem dL_law_332 : decode cL_law 332 = .ok (.iadd, 1) := by decide +kernel
theorem dL_law_333 : decode cL_law 333 = .ok (.iaload, 1) := by decide +kernel
theorem dL_law_334 : decode cL_law 334 = .ok (.invokevirtual 125, 3) := by decide +kernel
theorem dL_law_337 : decode cL_law 337 = .ok (.if_icmp .eq 2137, 3) := by decide +kernel
theorem dL_law_340 : decode cL_law 340 = .ok (.iconst 0, 1) := by decide +kernel
theorem dL_law_341 : decode cL_law 341 = .ok (.ireturn, 1) := by decide +kernel
theorem dL_law_342 : decode cL_law 342 = .ok (.aload_n 1, 1) := by decide +kernel
theorem dL_law_343 : decode cL_law 343 = .ok (.invokevirtual 126, 3) := by decide +kernel
theorem dL_law_346 : decode cL_law 346 = .ok (.aload_n 2, 1) := by decide +kernel
theorem dL_law_347 : decode cL_law 347 = .ok (.invokevirtual 129, 3) := by decide +kernel
theorem dL_law_350 : decode cL_law 350 = .ok (.if_icmp .eq 2124, 3) := by decide +kernel
theorem dL_law_353 : decode cL_law 353 = .ok (.iconst 0, 1) := by decide +kernel
theorem dL_law_354 : decode cL_law 354 = .ok (.ireturn, 1) := by decide +kernel
theorem dL_law_355 : decode cL_law 355 = .ok (.aload_n 1, 1) := by decide +kernel
theorem dL_law_356 : decode cL_law 356 = .ok (.invokevirtual 130, 3) := by decide +kernel
theorem dL_law_359 : decode cL_law 359 = .ok (.aload_n 2, 1) := by decide +kernel
theorem dL_law_360 : decode cL_law 360 = .ok (.invokevirtual 133, 3) := by decide +kernel
theorem dL_law_363 : decode cL_law 363 = .ok (.if_icmp .eq 2111, 3) := by decide +kernel
theorem dL_law_366 : decode cL_law 366 = .ok (.iconst 0, 1) := by decide +kernel
theorem dL_law_367 : decode cL_law 367 = .ok (.ireturn, 1) := by decide +kernel
theorem dL_law_368 : decode cL_law 368 = .ok (.aload_n 1, 1) := by decide +kernel
theorem dL_law_369 : decode cL_law 369 = .ok (.invokevirtual 134, 3) := by decide +kernel
theorem dL_law_372 : decode cL_law 372 = .ok (.aload_n 2, 1) := by decide +kernel
theorem dL_law_373 : decode cL_law 373 = .ok (.invokevirtual 137, 3) := by decide +kernel
theorem dL_law_376 : decode cL_law 376 = .ok (.if_icmp .eq 2098, 3) := by decide +kernel
theorem dL_law_379 : decode cL_law 379 = .ok (.iconst 0, 1) := by decide +kernel
theorem dL_law_380 : decode cL_law 380 = .ok (.ireturn, 1) := by decide +kernel
theorem dL_law_381 : decode cL_law 381 = .ok (.aload_n 1, 1) := by decide +kernel
theorem dL_law_382 : decode cL_law 382 = .ok (.aload_n 0, 1) := by decide +kernel
theorem dL_law_383 : decode cL_law 383 = .ok (.iload 4, 2) := by decide +kernel
theorem dL_law_385 : decode cL_law 385 = .ok (.iconst 1, 1) := by decide +kernel
theorem dL_law_386 : decode cL_law 386 = .ok (.iadd, 1) := by decide +kernel
theorem dL_law_387 : decode cL_law 387 = .ok (.iaload, 1) := by decide +kernel
theorem dL_law_388 : decode cL_law 388 = .ok (.invokevirtual 138, 3) := by decide +kernel
theorem dL_law_391 : decode cL_law 391 = .ok (.aload_n 2, 1) := by decide +kernel
theorem dL_law_392 : decode cL_law 392 = .ok (.aload_n 0, 1) := by decide +kernel
theorem dL_law_393 : decode cL_law 393 = .ok (.iload 4, 2) := by decide +kernel
theorem dL_law_395 : decode cL_law 395 = .ok (.iconst 1, 1) := by decide +kernel
theorem dL_law_396 : decode cL_law 396 = .ok (.iadd, 1) := by decide +kernel
theorem dL_law_397 : decode cL_law 397 = .ok (.iaload, 1) := by decide +kernel
theorem dL_law_398 : decode cL_law 398 = .ok (.invokevirtual 141, 3) := by decide +kernel
theorem dL_law_401 : decode cL_law 401 = .ok (.if_icmp .eq 2073, 3) := by decide +kernel
theorem dL_law_404 : decode cL_law 404 = .ok (.iconst 0, 1) := by decide +kernel
theorem dL_law_405 : decode cL_law 405 = .ok (.ireturn, 1) := by decide +kernel
theorem dL_law_406 : decode cL_law 406 = .ok (.aload_n 1, 1) := by decide +kernel
theorem dL_law_407 : decode cL_law 407 = .ok (.invokevirtual 142, 3) := by decide +kernel
theorem dL_law_410 : decode cL_law 410 = .ok (.aload_n 2, 1) := by decide +kernel
theorem dL_law_411 : decode cL_law 411 = .ok (.invokevirtual 145, 3) := by decide +kernel
theorem dL_law_414 : decode cL_law 414 = .ok (.if_icmp .eq 2060, 3) := by decide +kernel
theorem dL_law_417 : decode cL_law 417 = .ok (.iconst 0, 1) := by decide +kernel
theorem dL_law_418 : decode cL_law 418 = .ok (.ireturn, 1) := by decide +kernel
theorem dL_law_419 : decode cL_law 419 = .ok (.aload_n 1, 1) := by decide +kernel
theorem dL_law_420 : decode cL_law 420 = .ok (.aload_n 0, 1) := by decide +kernel
theorem dL_law_421 : decode cL_law 421 = .ok (.iload 4, 2) := by decide +kernel
theorem dL_law_423 : decode cL_law 423 = .ok (.iconst 1, 1) := by decide +kernel
theorem dL_law_424 : decode cL_law 424 = .ok (.iadd, 1) := by decide +kernel
theorem dL_law_425 : decode cL_law 425 = .ok (.iaload, 1) := by decide +kernel
theorem dL_law_426 : decode cL_law 426 = .ok (.aload_n 0, 1) := by decide +kernel
theorem dL_law_427 : decode cL_law 427 = .ok (.iload 4, 2) := by decide +kernel
theorem dL_law_429 : decode cL_law 429 = .ok (.iconst 2, 1) := by decide +kernel
theorem dL_law_430 : decode cL_law 430 = .ok (.iadd, 1) := by decide +kernel
theorem dL_law_431 : decode cL_law 431 = .ok (.iaload, 1) := by decide +kernel
theorem dL_law_432 : decode cL_law 432 = .ok (.aload_n 3, 1) := by decide +kernel
theorem dL_law_433 : decode cL_law 433 = .ok (.invokestatic 146, 3) := by decide +kernel
theorem dL_law_436 : decode cL_law 436 = .ok (.istore 5, 2) := by decide +kernel
theorem dL_law_438 : decode cL_law 438 = .ok (.aload_n 2, 1) := by decide +kernel
theorem dL_law_439 : decode cL_law 439 = .ok (.aload_n 0, 1) := by decide +kernel
theorem dL_law_440 : decode cL_law 440 = .ok (.iload 4, 2) := by decide +kernel
theorem dL_law_442 : decode cL_law 442 = .ok (.iconst 1, 1) := by decide +kernel
theorem dL_law_443 : decode cL_law 443 = .ok (.iadd, 1) := by decide +kernel
theorem dL_law_444 : decode cL_law 444 = .ok (.iaload, 1) := by decide +kernel
theorem dL_law_445 : decode cL_law 445 = .ok (.aload_n 0, 1) := by decide +kernel
theorem dL_law_446 : decode cL_law 446 = .ok (.iload 4, 2) := by decide +kernel
theorem dL_law_448 : decode cL_law 448 = .ok (.iconst 2, 1) := by decide +kernel
theorem dL_law_449 : decode cL_law 449 = .ok (.iadd, 1) := by decide +kernel
theorem dL_law_450 : decode cL_law 450 = .ok (.iaload, 1) := by decide +kernel
theorem dL_law_451 : decode cL_law 451 = .ok (.invokevirtual 151, 3) := by decide +kernel
theorem dL_law_454 : decode cL_law 454 = .ok (.istore 6, 2) := by decide +kernel
theorem dL_law_456 : decode cL_law 456 = .ok (.aload_n 2, 1) := by decide +kernel
theorem dL_law_457 : decode cL_law 457 = .ok (.invokevirtual 152, 3) := by decide +kernel
theorem dL_law_460 : decode cL_law 460 = .ok (.iload 5, 2) := by decide +kernel
theorem dL_law_462 : decode cL_law 462 = .ok (.if_icmp .eq 5, 3) := by decide +kernel
theorem dL_law_465 : decode cL_law 465 = .ok (.iconst 0, 1) := by decide +kernel
theorem dL_law_466 : decode cL_law 466 = .ok (.ireturn, 1) := by decide +kernel
theorem dL_law_467 : decode cL_law 467 = .ok (.iload 5, 2) := by decide +kernel
theorem dL_law_469 : decode cL_law 469 = .ok (.ifCond .ne 15, 3) := by decide +kernel
theorem dL_law_472 : decode cL_law 472 = .ok (.aload_n 3, 1) := by decide +kernel
theorem dL_law_473 : decode cL_law 473 = .ok (.iconst 0, 1) := by decide +kernel
theorem dL_law_474 : decode cL_law 474 = .ok (.laload, 1) := by decide +kernel
theorem dL_law_475 : decode cL_law 475 = .ok (.iload 6, 2) := by decide +kernel
theorem dL_law_477 : decode cL_law 477 = .ok (.i2l, 1) := by decide +kernel
theorem dL_law_478 : decode cL_law 478 = .ok (.lcmp, 1) := by decide +kernel
theorem dL_law_479 : decode cL_law 479 = .ok (.ifCond .eq 5, 3) := by decide +kernel
theorem dL_law_482 : decode cL_law 482 = .ok (.iconst 0, 1) := by decide +kernel
theorem dL_law_483 : decode cL_law 483 = .ok (.ireturn, 1) := by decide +kernel
theorem dL_law_484 : decode cL_law 484 = .ok (.goto 1990, 3) := by decide +kernel
theorem dL_law_487 : decode cL_law 487 = .ok (.aload_n 1, 1) := by decide +kernel
theorem dL_law_488 : decode cL_law 488 = .ok (.aload_n 0, 1) := by decide +kernel
theorem dL_law_489 : decode cL_law 489 = .ok (.iload 4, 2) := by decide +kernel
theorem dL_law_491 : decode cL_law 491 = .ok (.iconst 1, 1) := by decide +kernel
theorem dL_law_492 : decode cL_law 492 = .ok (.iadd, 1) := by decide +kernel
theorem dL_law_493 : decode cL_law 493 = .ok (.iaload, 1) := by decide +kernel
theorem dL_law_494 : decode cL_law 494 = .ok (.aload_n 0, 1) := by decide +kernel
theorem dL_law_495 : decode cL_law 495 = .ok (.iload 4, 2) := by decide +kernel
theorem dL_law_497 : decode cL_law 497 = .ok (.iconst 2, 1) := by decide +kernel
theorem dL_law_498 : decode cL_law 498 = .ok (.iadd, 1) := by decide +kernel
theorem dL_law_499 : decode cL_law 499 = .ok (.iaload, 1) := by decide +kernel
theorem dL_law_500 : decode cL_law 500 = .ok (.aload_n 3, 1) := by decide +kernel
theorem dL_law_501 : decode cL_law 501 = .ok (.invokestatic 155, 3) := by decide +kernel
theorem dL_law_504 : decode cL_law 504 = .ok (.istore 5, 2) := by decide +kernel
theorem dL_law_506 : decode cL_law 506 = .ok (.aload_n 2, 1) := by decide +kernel
theorem dL_law_507 : decode cL_law 507 = .ok (.aload_n 0, 1) := by decide +kernel
theorem dL_law_508 : decode cL_law 508 = .ok (.iload 4, 2) := by decide +kernel
theorem dL_law_510 : decode cL_law 510 = .ok (.iconst 1, 1) := by decide +kernel
theorem dL_law_511 : decode cL_law 511 = .ok (.iadd, 1) := by decide +kernel
theorem dL_law_512 : decode cL_law 512 = .ok (.iaload, 1) := by decide +kernel
theorem dL_law_513 : decode cL_law 513 = .ok (.aload_n 0, 1) := by decide +kernel
theorem dL_law_514 : decode cL_law 514 = .ok (.iload 4, 2) := by decide +kernel
theorem dL_law_516 : decode cL_law 516 = .ok (.iconst 2, 1) := by decide +kernel
theorem dL_law_517 : decode cL_law 517 = .ok (.iadd, 1) := by decide +kernel
theorem dL_law_518 : decode cL_law 518 = .ok (.iaload, 1) := by decide +kernel
theorem dL_law_519 : decode cL_law 519 = .ok (.invokevirtual 157, 3) := by decide +kernel
theorem dL_law_522 : decode cL_law 522 = .ok (.istore 6, 2) := by decide +kernel
theorem dL_law_524 : decode cL_law 524 = .ok (.aload_n 2, 1) := by decide +kernel
theorem dL_law_525 : decode cL_law 525 = .ok (.invokevirtual 152, 3) := by decide +kernel
theorem dL_law_528 : decode cL_law 528 = .ok (.iload 5, 2) := by decide +kernel
theorem dL_law_530 : decode cL_law 530 = .ok (.if_icmp .eq 5, 3) := by decide +kernel
theorem dL_law_533 : decode cL_law 533 = .ok (.iconst 0, 1) := by decide +kernel
theorem dL_law_534 : decode cL_law 534 = .ok (.ireturn, 1) := by decide +kernel
theorem dL_law_535 : decode cL_law 535 = .ok (.iload 5, 2) := by decide +kernel
theorem dL_law_537 : decode cL_law 537 = .ok (.ifCond .ne 15, 3) := by decide +kernel
theorem dL_law_540 : decode cL_law 540 = .ok (.aload_n 3, 1) := by decide +kernel
theorem dL_law_541 : decode cL_law 541 = .ok (.iconst 0, 1) := by decide +kernel
theorem dL_law_542 : decode cL_law 542 = .ok (.laload, 1) := by decide +kernel
theorem dL_law_543 : decode cL_law 543 = .ok (.iload 6, 2) := by decide +kernel
theorem dL_law_545 : decode cL_law 545 = .ok (.i2l, 1) := by decide +kernel
theorem dL_law_546 : decode cL_law 546 = .ok (.lcmp, 1) := by decide +kernel
theorem dL_law_547 : decode cL_law 547 = .ok (.ifCond .eq 5, 3) := by decide +kernel
theorem dL_law_550 : decode cL_law 550 = .ok (.iconst 0, 1) := by decide +kernel
theorem dL_law_551 : decode cL_law 551 = .ok (.ireturn, 1) := by decide +kernel
theorem dL_law_552 : decode cL_law 552 = .ok (.goto 1922, 3) := by decide +kernel
theorem dL_law_555 : decode cL_law 555 = .ok (.aload_n 1, 1) := by decide +kernel
theorem dL_law_556 : decode cL_law 556 = .ok (.aload_n 0, 1) := by decide +kernel
theorem dL_law_557 : decode cL_law 557 = .ok (.iload 4, 2) := by decide +kernel
theorem dL_law_559 : decode cL_law 559 = .ok (.iconst 1, 1) := by decide +kernel
theorem dL_law_560 : decode cL_law 560 = .ok (.iadd, 1) := by decide +kernel
theorem dL_law_561 : decode cL_law 561 = .ok (.iaload, 1) := by decide +kernel
theorem dL_law_562 : decode cL_law 562 = .ok (.aload_n 3, 1) := by decide +kernel
theorem dL_law_563 : decode cL_law 563 = .ok (.invokestatic 158, 3) := by decide +kernel
theorem dL_law_566 : decode cL_law 566 = .ok (.istore 5, 2) := by decide +kernel
theorem dL_law_568 : decode cL_law 568 = .ok (.aload_n 2, 1) := by decide +kernel
theorem dL_law_569 : decode cL_law 569 = .ok (.aload_n 0, 1) := by decide +kernel
theorem dL_law_570 : decode cL_law 570 = .ok (.iload 4, 2) := by decide +kernel
theorem dL_law_572 : decode cL_law 572 = .ok (.iconst 1, 1) := by decide +kernel
theorem dL_law_573 : decode cL_law 573 = .ok (.iadd, 1) := by decide +kernel
theorem dL_law_574 : decode cL_law 574 = .ok (.iaload, 1) := by decide +kernel
theorem dL_law_575 : decode cL_law 575 = .ok (.invokevirtual 161, 3) := by decide +kernel
theorem dL_law_578 : decode cL_law 578 = .ok (.istore 6, 2) := by decide +kernel
theorem dL_law_580 : decode cL_law 580 = .ok (.aload_n 2, 1) := by decide +kernel
theorem dL_law_581 : decode cL_law 581 = .ok (.invokevirtual 152, 3) := by decide +kernel
theorem dL_law_584 : decode cL_law 584 = .ok (.iload 5, 2) := by decide +kernel
theorem dL_law_586 : decode cL_law 586 = .ok (.if_icmp .eq 5, 3) := by decide +kernel
theorem dL_law_589 : decode cL_law 589 = .ok (.iconst 0, 1) := by decide +kernel
theorem dL_law_590 : decode cL_law 590 = .ok (.ireturn, 1) := by decide +kernel
theorem dL_law_591 : decode cL_law 591 = .ok (.iload 5, 2) := by decide +kernel
theorem dL_law_593 : decode cL_law 593 = .ok (.ifCond .ne 15, 3) := by decide +kernel
theorem dL_law_596 : decode cL_law 596 = .ok (.aload_n 3, 1) := by decide +kernel
theorem dL_law_597 : decode cL_law 597 = .ok (.iconst 0, 1) := by decide +kernel
theorem dL_law_598 : decode cL_law 598 = .ok (.laload, 1) := by decide +kernel
theorem dL_law_599 : decode cL_law 599 = .ok (.iload 6, 2) := by decide +kernel
theorem dL_law_601 : decode cL_law 601 = .ok (.i2l, 1) := by decide +kernel
theorem dL_law_602 : decode cL_law 602 = .ok (.lcmp, 1) := by decide +kernel
theorem dL_law_603 : decode cL_law 603 = .ok (.ifCond .eq 5, 3) := by decide +kernel
theorem dL_law_606 : decode cL_law 606 = .ok (.iconst 0, 1) := by decide +kernel
theorem dL_law_607 : decode cL_law 607 = .ok (.ireturn, 1) := by decide +kernel
theorem dL_law_608 : decode cL_law 608 = .ok (.goto 1866, 3) := by decide +kernel
theorem dL_law_611 : decode cL_law 611 = .ok (.aload_n 1, 1) := by decide +kernel
theorem dL_law_612 : decode cL_law 612 = .ok (.aload_n 0, 1) := by decide +kernel
theorem dL_law_613 : decode cL_law 613 = .ok (.iload 4, 2) := by decide +kernel
theorem dL_law_615 : decode cL_law 615 = .ok (.iconst 1, 1) := by decide +kernel
theorem dL_law_616 : decode cL_law 616 = .ok (.iadd, 1) := by decide +kernel
theorem dL_law_617 : decode cL_law 617 = .ok (.iaload, 1) := by decide +kernel
theorem dL_law_618 : decode cL_law 618 = .ok (.aload_n 0, 1) := by decide +kernel
theorem dL_law_619 : decode cL_law 619 = .ok (.iload 4, 2) := by decide +kernel
theorem dL_law_621 : decode cL_law 621 = .ok (.iconst 2, 1) := by decide +kernel
theorem dL_law_622 : decode cL_law 622 = .ok (.iadd, 1) := by decide +kernel
theorem dL_law_623 : decode cL_law 623 = .ok (.iaload, 1) := by decide +kernel
theorem dL_law_624 : decode cL_law 624 = .ok (.aload_n 3, 1) := by decide +kernel
theorem dL_law_625 : decode cL_law 625 = .ok (.invokestatic 162, 3) := by decide +kernel
theorem dL_law_628 : decode cL_law 628 = .ok (.istore 5, 2) := by decide +kernel
theorem dL_law_630 : decode cL_law 630 = .ok (.aload_n 2, 1) := by decide +kernel
theorem dL_law_631 : decode cL_law 631 = .ok (.aload_n 0, 1) := by decide +kernel
theorem dL_law_632 : decode cL_law 632 = .ok (.iload 4, 2) := by decide +kernel
theorem dL_law_634 : decode cL_law 634 = .ok (.iconst 1, 1) := by decide +kernel
theorem dL_law_635 : decode cL_law 635 = .ok (.iadd, 1) := by decide +kernel
theorem dL_law_636 : decode cL_law 636 = .ok (.iaload, 1) := by decide +kernel
theorem dL_law_637 : decode cL_law 637 = .ok (.aload_n 0, 1) := by decide +kernel
theorem dL_law_638 : decode cL_law 638 = .ok (.iload 4, 2) := by decide +kernel
theorem dL_law_640 : decode cL_law 640 = .ok (.iconst 2, 1) := by decide +kernel
theorem dL_law_641 : decode cL_law 641 = .ok (.iadd, 1) := by decide +kernel
theorem dL_law_642 : decode cL_law 642 = .ok (.iaload, 1) := by decide +kernel
theorem dL_law_643 : decode cL_law 643 = .ok (.invokevirtual 164, 3) := by decide +kernel
theorem dL_law_646 : decode cL_law 646 = .ok (.istore 6, 2) := by decide +kernel
theorem dL_law_648 : decode cL_law 648 = .ok (.aload_n 2, 1) := by decide +kernel
theorem dL_law_649 : decode cL_law 649 = .ok (.invokevirtual 152, 3) := by decide +kernel
theorem dL_law_652 : decode cL_law 652 = .ok (.iload 5, 2) := by decide +kernel
theorem dL_law_654 : decode cL_law 654 = .ok (.if_icmp .eq 5, 3) := by decide +kernel
theorem dL_law_657 : decode cL_law 657 = .ok (.iconst 0, 1) := by decide +kernel
theorem dL_law_658 : decode cL_law 658 = .ok (.ireturn, 1) := by decide +kernel
theorem dL_law_659 : decode cL_law 659 = .ok (.iload 5, 2) := by decide +kernel
theorem dL_law_661 : decode cL_law 661 = .ok (.ifCond .ne 15, 3) := by decide +kernel
theorem dL_law_664 : decode cL_law 664 = .ok (.aload_n 3, 1) := by decide +kernel
theorem dL_law_665 : decode cL_law 665 = .ok (.iconst 0, 1) := by decide +kernel
theorem dL_law_666 : decode cL_law 666 = .ok (.laload, 1) := by decide +kernel
theorem dL_law_667 : decode cL_law 667 = .ok (.iload 6, 2) := by decide +kernel
theorem dL_law_669 : decode cL_law 669 = .ok (.i2l, 1) := by decide +kernel
theorem dL_law_670 : decode cL_law 670 = .ok (.lcmp, 1) := by decide +kernel
theorem dL_law_671 : decode cL_law 671 = .ok (.ifCond .eq 5, 3) := by decide +kernel
theorem dL_law_674 : decode cL_law 674 = .ok (.iconst 0, 1) := by decide +kernel
theorem dL_law_675 : decode cL_law 675 = .ok (.ireturn, 1) := by decide +kernel
theorem dL_law_676 : decode cL_law 676 = .ok (.goto 1798, 3) := by decide +kernel
theorem dL_law_679 : decode cL_law 679 = .ok (.aload_n 1, 1) := by decide +kernel
theorem dL_law_680 : decode cL_law 680 = .ok (.aload_n 0, 1) := by decide +kernel
theorem dL_law_681 : decode cL_law 681 = .ok (.iload 4, 2) := by decide +kernel
theorem dL_law_683 : decode cL_law 683 = .ok (.iconst 1, 1) := by decide +kernel
theorem dL_law_684 : decode cL_law 684 = .ok (.iadd, 1) := by decide +kernel
theorem dL_law_685 : decode cL_law 685 = .ok (.iaload, 1) := by decide +kernel
theorem dL_law_686 : decode cL_law 686 = .ok (.aload_n 3, 1) := by decide +kernel
theorem dL_law_687 : decode cL_law 687 = .ok (.invokestatic 165, 3) := by decide +kernel
theorem dL_law_690 : decode cL_law 690 = .ok (.istore 5, 2) := by decide +kernel
theorem dL_law_692 : decode cL_law 692 = .ok (.aload_n 2, 1) := by decide +kernel
theorem dL_law_693 : decode cL_law 693 = .ok (.aload_n 0, 1) := by decide +kernel
theorem dL_law_694 : decode cL_law 694 = .ok (.iload 4, 2) := by decide +kernel
theorem dL_law_696 : decode cL_law 696 = .ok (.iconst 1, 1) := by decide +kernel
theorem dL_law_697 : decode cL_law 697 = .ok (.iadd, 1) := by decide +kernel
theorem dL_law_698 : decode cL_law 698 = .ok (.iaload, 1) := by decide +kernel
theorem dL_law_699 : decode cL_law 699 = .ok (.invokevirtual 167, 3) := by decide +kernel
theorem dL_law_702 : decode cL_law 702 = .ok (.istore 6, 2) := by decide +kernel
theorem dL_law_704 : decode cL_law 704 = .ok (.aload_n 2, 1) := by decide +kernel
theorem dL_law_705 : decode cL_law 705 = .ok (.invokevirtual 152, 3) := by decide +kernel
theorem dL_law_708 : decode cL_law 708 = .ok (.iload 5, 2) := by decide +kernel
theorem dL_law_710 : decode cL_law 710 = .ok (.if_icmp .eq 5, 3) := by decide +kernel
theorem dL_law_713 : decode cL_law 713 = .ok (.iconst 0, 1) := by decide +kernel
theorem dL_law_714 : decode cL_law 714 = .ok (.ireturn, 1) := by decide +kernel
theorem dL_law_715 : decode cL_law 715 = .ok (.iload 5, 2) := by decide +kernel
theorem dL_law_717 : decode cL_law 717 = .ok (.ifCond .ne 15, 3) := by decide +kernel
theorem dL_law_720 : decode cL_law 720 = .ok (.aload_n 3, 1) := by decide +kernel
theorem dL_law_721 : decode cL_law 721 = .ok (.iconst 0, 1) := by decide +kernel
theorem dL_law_722 : decode cL_law 722 = .ok (.laload, 1) := by decide +kernel
theorem dL_law_723 : decode cL_law 723 = .ok (.iload 6, 2) := by decide +kernel
theorem dL_law_725 : decode cL_law 725 = .ok (.i2l, 1) := by decide +kernel
theorem dL_law_726 : decode cL_law 726 = .ok (.lcmp, 1) := by decide +kernel
theorem dL_law_727 : decode cL_law 727 = .ok (.ifCond .eq 5, 3) := by decide +kernel
theorem dL_law_730 : decode cL_law 730 = .ok (.iconst 0, 1) := by decide +kernel
theorem dL_law_731 : decode cL_law 731 = .ok (.ireturn, 1) := by decide +kernel
theorem dL_law_732 : decode cL_law 732 = .ok (.goto 1742, 3) := by decide +kernel
theorem dL_law_735 : decode cL_law 735 = .ok (.aload_n 1, 1) := by decide +kernel
theorem dL_law_736 : decode cL_law 736 = .ok (.invokevirtual 168, 3) := by decide +kernel
theorem dL_law_739 : decode cL_law 739 = .ok (.aload_n 2, 1) := by decide +kernel
theorem dL_law_740 : decode cL_law 740 = .ok (.invokevirtual 171, 3) := by decide +kernel
theorem dL_law_743 : decode cL_law 743 = .ok (.if_icmp .eq 1731, 3) := by decide +kernel
theorem dL_law_746 : decode cL_law 746 = .ok (.iconst 0, 1) := by decide +kernel
theorem dL_law_747 : decode cL_law 747 = .ok (.ireturn, 1) := by decide +kernel
theorem dL_law_748 : decode cL_law 748 = .ok (.aload_n 1, 1) := by decide +kernel
theorem dL_law_749 : decode cL_law 749 = .ok (.aload_n 0, 1) := by decide +kernel
theorem dL_law_750 : decode cL_law 750 = .ok (.iload 4, 2) := by decide +kernel
theorem dL_law_752 : decode cL_law 752 = .ok (.iconst 1, 1) := by decide +kernel
theorem dL_law_753 : decode cL_law 753 = .ok (.iadd, 1) := by decide +kernel
theorem dL_law_754 : decode cL_law 754 = .ok (.iaload, 1) := by decide +kernel
theorem dL_law_755 : decode cL_law 755 = .ok (.aload_n 0, 1) := by decide +kernel
theorem dL_law_756 : decode cL_law 756 = .ok (.iload 4, 2) := by decide +kernel
theorem dL_law_758 : decode cL_law 758 = .ok (.iconst 2, 1) := by decide +kernel
theorem dL_law_759 : decode cL_law 759 = .ok (.iadd, 1) := by decide +kernel
theorem dL_law_760 : decode cL_law 760 = .ok (.iaload, 1) := by decide +kernel
theorem dL_law_761 : decode cL_law 761 = .ok (.aload_n 3, 1) := by decide +kernel
theorem dL_law_762 : decode cL_law 762 = .ok (.invokestatic 172, 3) := by decide +kernel
theorem dL_law_765 : decode cL_law 765 = .ok (.istore 5, 2) := by decide +kernel
theorem dL_law_767 : decode cL_law 767 = .ok (.aload_n 2, 1) := by decide +kernel
theorem dL_law_768 : decode cL_law 768 = .ok (.aload_n 0, 1) := by decide +kernel
theorem dL_law_769 : decode cL_law 769 = .ok (.iload 4, 2) := by decide +kernel
theorem dL_law_771 : decode cL_law 771 = .ok (.iconst 1, 1) := by decide +kernel
theorem dL_law_772 : decode cL_law 772 = .ok (.iadd, 1) := by decide +kernel
theorem dL_law_773 : decode cL_law 773 = .ok (.iaload, 1) := by decide +kernel
theorem dL_law_774 : decode cL_law 774 = .ok (.aload_n 0, 1) := by decide +kernel
theorem dL_law_775 : decode cL_law 775 = .ok (.iload 4, 2) := by decide +kernel
theorem dL_law_777 : decode cL_law 777 = .ok (.iconst 2, 1) := by decide +kernel
theorem dL_law_778 : decode cL_law 778 = .ok (.iadd, 1) := by decide +kernel
theorem dL_law_779 : decode cL_law 779 = .ok (.iaload, 1) := by decide +kernel
theorem dL_law_780 : decode cL_law 780 = .ok (.invokevirtual 174, 3) := by decide +kernel
theorem dL_law_783 : decode cL_law 783 = .ok (.istore 6, 2) := by decide +kernel
theorem dL_law_785 : decode cL_law 785 = .ok (.aload_n 2, 1) := by decide +kernel
theorem dL_law_786 : decode cL_law 786 = .ok (.invokevirtual 152, 3) := by decide +kernel
theorem dL_law_789 : decode cL_law 789 = .ok (.iload 5, 2) := by decide +kernel
theorem dL_law_791 : decode cL_law 791 = .ok (.if_icmp .eq 5, 3) := by decide +kernel
theorem dL_law_794 : decode cL_law 794 = .ok (.iconst 0, 1) := by decide +kernel
theorem dL_law_795 : decode cL_law 795 = .ok (.ireturn, 1) := by decide +kernel
theorem dL_law_796 : decode cL_law 796 = .ok (.iload 5, 2) := by decide +kernel
theorem dL_law_798 : decode cL_law 798 = .ok (.ifCond .ne 15, 3) := by decide +kernel
theorem dL_law_801 : decode cL_law 801 = .ok (.aload_n 3, 1) := by decide +kernel
theorem dL_law_802 : decode cL_law 802 = .ok (.iconst 0, 1) := by decide +kernel
theorem dL_law_803 : decode cL_law 803 = .ok (.laload, 1) := by decide +kernel
theorem dL_law_804 : decode cL_law 804 = .ok (.iload 6, 2) := by decide +kernel
theorem dL_law_806 : decode cL_law 806 = .ok (.i2l, 1) := by decide +kernel
theorem dL_law_807 : decode cL_law 807 = .ok (.lcmp, 1) := by decide +kernel
theorem dL_law_808 : decode cL_law 808 = .ok (.ifCond .eq 5, 3) := by decide +kernel
theorem dL_law_811 : decode cL_law 811 = .ok (.iconst 0, 1) := by decide +kernel
theorem dL_law_812 : decode cL_law 812 = .ok (.ireturn, 1) := by decide +kernel
theorem dL_law_813 : decode cL_law 813 = .ok (.goto 1661, 3) := by decide +kernel
theorem dL_law_816 : decode cL_law 816 = .ok (.aload_n 1, 1) := by decide +kernel
theorem dL_law_817 : decode cL_law 817 = .ok (.aload_n 0, 1) := by decide +kernel
theorem dL_law_818 : decode cL_law 818 = .ok (.iload 4, 2) := by decide +kernel
theorem dL_law_820 : decode cL_law 820 = .ok (.iconst 1, 1) := by decide +kernel
theorem dL_law_821 : decode cL_law 821 = .ok (.iadd, 1) := by decide +kernel
theorem dL_law_822 : decode cL_law 822 = .ok (.iaload, 1) := by decide +kernel
theorem dL_law_823 : decode cL_law 823 = .ok (.aload_n 3, 1) := by decide +kernel
theorem dL_law_824 : decode cL_law 824 = .ok (.invokestatic 175, 3) := by decide +kernel
theorem dL_law_827 : decode cL_law 827 = .ok (.istore 5, 2) := by decide +kernel
theorem dL_law_829 : decode cL_law 829 = .ok (.aload_n 2, 1) := by decide +kernel
theorem dL_law_830 : decode cL_law 830 = .ok (.aload_n 0, 1) := by decide +kernel
theorem dL_law_831 : decode cL_law 831 = .ok (.iload 4, 2) := by decide +kernel
theorem dL_law_833 : decode cL_law 833 = .ok (.iconst 1, 1) := by decide +kernel
theorem dL_law_834 : decode cL_law 834 = .ok (.iadd, 1) := by decide +kernel
theorem dL_law_835 : decode cL_law 835 = .ok (.iaload, 1) := by decide +kernel
theorem dL_law_836 : decode cL_law 836 = .ok (.invokevirtual 177, 3) := by decide +kernel
theorem dL_law_839 : decode cL_law 839 = .ok (.istore 6, 2) := by decide +kernel
theorem dL_law_841 : decode cL_law 841 = .ok (.aload_n 2, 1) := by decide +kernel
theorem dL_law_842 : decode cL_law 842 = .ok (.invokevirtual 152, 3) := by decide +kernel
theorem dL_law_845 : decode cL_law 845 = .ok (.iload 5, 2) := by decide +kernel
theorem dL_law_847 : decode cL_law 847 = .ok (.if_icmp .eq 5, 3) := by decide +kernel
theorem dL_law_850 : decode cL_law 850 = .ok (.iconst 0, 1) := by decide +kernel
theorem dL_law_851 : decode cL_law 851 = .ok (.ireturn, 1) := by decide +kernel
theorem dL_law_852 : decode cL_law 852 = .ok (.iload 5, 2) := by decide +kernel
theorem dL_law_854 : decode cL_law 854 = .ok (.ifCond .ne 15, 3) := by decide +kernel
theorem dL_law_857 : decode cL_law 857 = .ok (.aload_n 3, 1) := by decide +kernel
theorem dL_law_858 : decode cL_law 858 = .ok (.iconst 0, 1) := by decide +kernel
theorem dL_law_859 : decode cL_law 859 = .ok (.laload, 1) := by decide +kernel
theorem dL_law_860 : decode cL_law 860 = .ok (.iload 6, 2) := by decide +kernel
theorem dL_law_862 : decode cL_law 862 = .ok (.i2l, 1) := by decide +kernel
theorem dL_law_863 : decode cL_law 863 = .ok (.lcmp, 1) := by decide +kernel
theorem dL_law_864 : decode cL_law 864 = .ok (.ifCond .eq 5, 3) := by decide +kernel
theorem dL_law_867 : decode cL_law 867 = .ok (.iconst 0, 1) := by decide +kernel
theorem dL_law_868 : decode cL_law 868 = .ok (.ireturn, 1) := by decide +kernel
theorem dL_law_869 : decode cL_law 869 = .ok (.goto 1605, 3) := by decide +kernel
theorem dL_law_872 : decode cL_law 872 = .ok (.aload_n 1, 1) := by decide +kernel
theorem dL_law_873 : decode cL_law 873 = .ok (.aload_n 0, 1) := by decide +kernel
theorem dL_law_874 : decode cL_law 874 = .ok (.iload 4, 2) := by decide +kernel
theorem dL_law_876 : decode cL_law 876 = .ok (.iconst 1, 1) := by decide +kernel
theorem dL_law_877 : decode cL_law 877 = .ok (.iadd, 1) := by decide +kernel
theorem dL_law_878 : decode cL_law 878 = .ok (.iaload, 1) := by decide +kernel
theorem dL_law_879 : decode cL_law 879 = .ok (.aload_n 0, 1) := by decide +kernel
theorem dL_law_880 : decode cL_law 880 = .ok (.iload 4, 2) := by decide +kernel
theorem dL_law_882 : decode cL_law 882 = .ok (.iconst 2, 1) := by decide +kernel
theorem dL_law_883 : decode cL_law 883 = .ok (.iadd, 1) := by decide +kernel
theorem dL_law_884 : decode cL_law 884 = .ok (.iaload, 1) := by decide +kernel
theorem dL_law_885 : decode cL_law 885 = .ok (.aload_n 3, 1) := by decide +kernel
theorem dL_law_886 : decode cL_law 886 = .ok (.invokestatic 178, 3) := by decide +kernel
theorem dL_law_889 : decode cL_law 889 = .ok (.istore 5, 2) := by decide +kernel
theorem dL_law_891 : decode cL_law 891 = .ok (.aload_n 2, 1) := by decide +kernel
theorem dL_law_892 : decode cL_law 892 = .ok (.aload_n 0, 1) := by decide +kernel
theorem dL_law_893 : decode cL_law 893 = .ok (.iload 4, 2) := by decide +kernel
theorem dL_law_895 : decode cL_law 895 = .ok (.iconst 1, 1) := by decide +kernel
theorem dL_law_896 : decode cL_law 896 = .ok (.iadd, 1) := by decide +kernel
theorem dL_law_897 : decode cL_law 897 = .ok (.iaload, 1) := by decide +kernel
theorem dL_law_898 : decode cL_law 898 = .ok (.aload_n 0, 1) := by decide +kernel
theorem dL_law_899 : decode cL_law 899 = .ok (.iload 4, 2) := by decide +kernel
theorem dL_law_901 : decode cL_law 901 = .ok (.iconst 2, 1) := by decide +kernel
theorem dL_law_902 : decode cL_law 902 = .ok (.iadd, 1) := by decide +kernel
theorem dL_law_903 : decode cL_law 903 = .ok (.iaload, 1) := by decide +kernel
theorem dL_law_904 : decode cL_law 904 = .ok (.invokevirtual 180, 3) := by decide +kernel
theorem dL_law_907 : decode cL_law 907 = .ok (.istore 6, 2) := by decide +kernel
theorem dL_law_909 : decode cL_law 909 = .ok (.aload_n 2, 1) := by decide +kernel
theorem dL_law_910 : decode cL_law 910 = .ok (.invokevirtual 152, 3) := by decide +kernel
theorem dL_law_913 : decode cL_law 913 = .ok (.iload 5, 2) := by decide +kernel
theorem dL_law_915 : decode cL_law 915 = .ok (.if_icmp .eq 5, 3) := by decide +kernel
theorem dL_law_918 : decode cL_law 918 = .ok (.iconst 0, 1) := by decide +kernel
theorem dL_law_919 : decode cL_law 919 = .ok (.ireturn, 1) := by decide +kernel
theorem dL_law_920 : decode cL_law 920 = .ok (.iload 5, 2) := by decide +kernel
theorem dL_law_922 : decode cL_law 922 = .ok (.ifCond .ne 15, 3) := by decide +kernel
theorem dL_law_925 : decode cL_law 925 = .ok (.aload_n 3, 1) := by decide +kernel
theorem dL_law_926 : decode cL_law 926 = .ok (.iconst 0, 1) := by decide +kernel
theorem dL_law_927 : decode cL_law 927 = .ok (.laload, 1) := by decide +kernel
theorem dL_law_928 : decode cL_law 928 = .ok (.iload 6, 2) := by decide +kernel
theorem dL_law_930 : decode cL_law 930 = .ok (.i2l, 1) := by decide +kernel
theorem dL_law_931 : decode cL_law 931 = .ok (.lcmp, 1) := by decide +kernel
theorem dL_law_932 : decode cL_law 932 = .ok (.ifCond .eq 5, 3) := by decide +kernel
theorem dL_law_935 : decode cL_law 935 = .ok (.iconst 0, 1) := by decide +kernel
theorem dL_law_936 : decode cL_law 936 = .ok (.ireturn, 1) := by decide +kernel
theorem dL_law_937 : decode cL_law 937 = .ok (.goto 1537, 3) := by decide +kernel
def bnd9 {α1 α2 α3 α4 α5 α6 α7 α8 α9 β : Type} (o : Option (α1 × α2 × α3 × α4 × α5 × α6 × α7 × α8 × α9)) (f : α1 → α2 → α3 → α4 → α5 → α6 → α7 → α8 → α9 → Option β) : Option β := o.bind (fun x => f x.1 x.2.1 x.2.2.1 x.2.2.2.1 x.2.2.2.2.1 x.2.2.2.2.2.1 x.2.2.2.2.2.2.1 x.2.2.2.2.2.2.2.1 x.2.2.2.2.2.2.2.2)
theorem ob9 {α1 α2 α3 α4 α5 α6 α7 α8 α9 β : Type} {o : Option (α1 × α2 × α3 × α4 × α5 × α6 × α7 × α8 × α9)} {f : α1 → α2 → α3 → α4 → α5 → α6 → α7 → α8 → α9 → Option β} {r : β} (h : bnd9 o f = some r) : ∃ y1 y2 y3 y4 y5 y6 y7 y8 y9, o = some (y1, y2, y3, y4, y5, y6, y7, y8, y9) ∧ f y1 y2 y3 y4 y5 y6 y7 y8 y9 = some r := by
  cases o with
  | none => cases h
  | some x => exact ⟨x.1, x.2.1, x.2.2.1, x.2.2.2.1, x.2.2.2.2.1, x.2.2.2.2.2.1, x.2.2.2.2.2.2.1, x.2.2.2.2.2.2.2.1, x.2.2.2.2.2.2.2.2, rfl, h⟩
theorem fl8 (a b c d e f g h : va_W) : a ++ b ++ c ++ d ++ e ++ f ++ g ++ h = List.flatten [a, b, c, d, e, f, g, h] := by simp
theorem pl_parse {n z : Nat} {sv : Value} {th inn ru no fo rd rr th1 in1 ru1 no1 fo1 rd1 rr1 : OS} {pa pa1 : PS} {r : Int32} (h : f_X8_parse n sv th z inn ru no fo rd rr pa = some (th1, in1, ru1, no1, fo1, rd1, rr1, pa1, r)) : pa1.2 = pa.2 := by
  unfold f_X8_parse at h
  obtain ⟨a1, a2, a3, a4, hg, h⟩ := ob4 h
  obtain ⟨b1, e1, h⟩ := oL h
  by_cases hc : a4 = 0
  · have h := oT hc h
    cases h
    rfl
  · have h := oF hc h
    obtain ⟨c1, hg1, h⟩ := ob h
    obtain ⟨c2, hg2, h⟩ := ob h
    obtain ⟨p, hp, h⟩ := ob h
    obtain ⟨t9, e9, h⟩ := oL h
    cases h
    unfold f_X3_forget at hp
    obtain ⟨q, hq, hp⟩ := oL hp
    cases hp
    rw [hq]
    rfl
abbrev LST : Type := (OS) × (OS) × (OS) × (OS) × (OS) × (OS) × (OS) × (OS) × (PS) × (OS) × (Nat → Int64) × (Option OS)
def f_law_0 (n : Nat) (L : Nat) (xs : Nat → Int32) (v4 : Int32) (sv_0 : Value) (p1_0 : OS) (p1in_0 : OS) (p1ou_0 : OS) (p1ru_0 : OS) (p1no_0 : OS) (p1fo_0 : OS) (p1rd_0 : OS) (p1rr_0 : OS) (p1pa_0 : PS) (p2_0 : OS) (p3_0 : Nat → Int64) (so_0 : Option OS) : Option LST :=
  gI L (v4 + (1 : Int32)) (Let (xs (v4 + (1 : Int32)).toNatClampNeg) (fun x_1 : Int32 =>
  gI L (v4 + (2 : Int32)) (Let (xs (v4 + (2 : Int32)).toNatClampNeg) (fun x_2 : Int32 =>
  gI L (v4 + (3 : Int32)) (Let (xs (v4 + (3 : Int32)).toNatClampNeg) (fun x_3 : Int32 =>
  gI L (v4 + (4 : Int32)) (Let (xs (v4 + (4 : Int32)).toNatClampNeg) (fun x_4 : Int32 =>
  gI L (v4 + (5 : Int32)) (Let (xs (v4 + (5 : Int32)).toNatClampNeg) (fun x_5 : Int32 =>
  bnd2 (f_X8_feed n sv_0 p1_0 600 p1in_0 x_1 x_2 x_3 x_4 x_5) (fun (p1in_6 : OS) (r_7 : Int32) =>
  gI L (v4 + (1 : Int32)) (Let (xs (v4 + (1 : Int32)).toNatClampNeg) (fun x_8 : Int32 =>
  gI L (v4 + (2 : Int32)) (Let (xs (v4 + (2 : Int32)).toNatClampNeg) (fun x_9 : Int32 =>
  gI L (v4 + (3 : Int32)) (Let (xs (v4 + (3 : Int32)).toNatClampNeg) (fun x_10 : Int32 =>
  gI L (v4 + (4 : Int32)) (Let (xs (v4 + (4 : Int32)).toNatClampNeg) (fun x_11 : Int32 =>
  gI L (v4 + (5 : Int32)) (Let (xs (v4 + (5 : Int32)).toNatClampNeg) (fun x_12 : Int32 =>
  bnd2 (f_X9_feed n p2_0 x_8 x_9 x_10 x_11 x_12) (fun (p2_13 : OS) (r_14 : Int32) =>
  if r_7 = r_14 then (
  some (p1_0, p1in_6, p1ou_0, p1ru_0, p1no_0, p1fo_0, p1rd_0, p1rr_0, p1pa_0, p2_13, p3_0, so_0)) else (
  none)))))))))))))))))))))))
set_option maxHeartbeats 4000000 in
set_option maxRecDepth 100000 in
theorem c_law_0 {p : Program} {l : Launch} {e : Env} {s : State} {m : MethodId} {below : List Frame} {meth : Method} {c : Code} {A : Nat → Prop} {Q : State → Prop} {b L : Nat} {xs : Nat → Int32} {k : KT} (n : Nat) (hE : EH k) (hx : XH l k) (hN : CCH k) (E : E0 p s m c cL_law 9 RL k A) (hX : va_X b L xs s s.heap) (hbl : b < s.heap.size) (hbA : ¬ A b) (hA : ∀ q : Nat, s.heap.size ≤ q → A q) (a_p1 : Nat → Nat) (a_p1in : Nat → Nat) (a_p1ou : Nat → Nat) (a_p1ru : Nat → Nat) (a_p1no : Nat → Nat) (a_p1fo : Nat → Nat) (a_p1rd : Nat → Nat) (a_p1rr : Nat → Nat) (a_p1pa : Nat → Nat) (a_p2 : Nat → Nat) (a_p3 : Nat → Nat) (pp_0 : Nat → Nat → Nat) (sa_0 : Nat → Nat) (v4 : Int32) (p1_0 : OS) (p1in_0 : OS) (p1ou_0 : OS) (p1ru_0 : OS) (p1no_0 : OS) (p1fo_0 : OS) (p1rd_0 : OS) (p1rr_0 : OS) (p1pa_0 : PS) (p2_0 : OS) (p3_0 : Nat → Int64) (so_0 : Option OS) (res : LST) (hf : f_law_0 n L xs v4 (svV sa_0 so_0) p1_0 p1in_0 p1ou_0 p1ru_0 p1no_0 p1fo_0 p1rd_0 p1rr_0 p1pa_0 p2_0 p3_0 so_0 = some res)
    (H : Heap) (locs : List Loc) (ls : Array Slot) (c0 s0 : Nat) (hc0 : c0 + 40 ≤ 601024) (hs0 : s0 + 8000 ≤ 7293034) (hW : WD k A s.heap ((List.flatten [wMCo k a_p1 (a_p1in 0) (a_p1ou 0) (a_p1ru 0) (a_p1no 0) (a_p1fo 0) (a_p1rd 0) (a_p1pa 0) (svV sa_0 so_0) p1_0, wBytes k a_p1in 600 p1in_0, wBytes k a_p1ou 1024 p1ou_0, wRules k a_p1ru p1ru_0, wCourt k a_p1no p1no_0, wCourt k a_p1fo p1fo_0, wReader k a_p1rd (a_p1in 0) (a_p1fo 0) (a_p1rr 0) p1rd_0, wRules k a_p1rr p1rr_0, wPast k a_p1pa pp_0 p1pa_0, wModel k a_p2 p2_0, wJArr k a_p3 1 p3_0] ++ savW k sa_0 so_0) ++ poolW k pp_0 p1pa_0.2) H locs) (hl : lv_has ls 9 [(0, .ref b), (1, .ref (a_p1 0)), (2, .ref (a_p2 0)), (3, .ref (a_p3 0)), (4, .int v4)])
    (hgo : ∀ (pp : Nat → Nat → Nat) (sa : Nat → Nat) (H : Heap) (locs : List Loc) (ls : Array Slot) (cells slots : Nat), cells ≤ c0 + 40 → slots ≤ s0 + 8000 → WD k A s.heap ((List.flatten [wMCo k a_p1 (a_p1in 0) (a_p1ou 0) (a_p1ru 0) (a_p1no 0) (a_p1fo 0) (a_p1rd 0) (a_p1pa 0) (svV sa (res.2.2.2.2.2.2.2.2.2.2.2)) (res.1), wBytes k a_p1in 600 (res.2.1), wBytes k a_p1ou 1024 (res.2.2.1), wRules k a_p1ru (res.2.2.2.1), wCourt k a_p1no (res.2.2.2.2.1), wCourt k a_p1fo (res.2.2.2.2.2.1), wReader k a_p1rd (a_p1in 0) (a_p1fo 0) (a_p1rr 0) (res.2.2.2.2.2.2.1), wRules k a_p1rr (res.2.2.2.2.2.2.2.1), wPast k a_p1pa pp (res.2.2.2.2.2.2.2.2.1), wModel k a_p2 (res.2.2.2.2.2.2.2.2.2.1), wJArr k a_p3 1 (res.2.2.2.2.2.2.2.2.2.2.1)] ++ savW k sa (res.2.2.2.2.2.2.2.2.2.2.2)) ++ poolW k pp (res.2.2.2.2.2.2.2.2.1).2) H locs → lv_has ls 9 [(0, .ref b), (1, .ref (a_p1 0)), (2, .ref (a_p2 0)), (3, .ref (a_p3 0)), (4, .int v4)] → W p l e room_1 s m #[Value.ref b] below meth c H locs cells slots Q (F0 m 2474 ls [])) :
    W p l e room_1 s m #[Value.ref b] below meth c H locs c0 s0 Q (F0 m 244 ls []) := by
  unfold f_law_0 at hf
  refine k_aload_n E hl 1 dL_law_244 rfl ?_
  refine k_aload_n E hl 0 dL_law_245 rfl ?_
  refine k_iload E hl 4 dL_law_246 rfl ?_
  refine lv_iconst (v := (1 : Int32)) E.hx E.hb dL_law_248 ic_1 ?_
  refine lv_iadd E.hx E.hb dL_law_249 ?_
  obtain ⟨hin, hf⟩ := oI hf
  obtain ⟨x_1, ex_1, hf⟩ := oL hf
  refine va_sld E.hx E.hb hX hbl hbA hW.2.2 hin dL_law_250 ?_
  refine k_topi ex_1 ?_
  refine k_aload_n E hl 0 dL_law_251 rfl ?_
  refine k_iload E hl 4 dL_law_252 rfl ?_
  refine lv_iconst (v := (2 : Int32)) E.hx E.hb dL_law_254 ic_2 ?_
  refine lv_iadd E.hx E.hb dL_law_255 ?_
  obtain ⟨hin, hf⟩ := oI hf
  obtain ⟨x_2, ex_2, hf⟩ := oL hf
  refine va_sld E.hx E.hb hX hbl hbA hW.2.2 hin dL_law_256 ?_
  refine k_topi ex_2 ?_
  refine k_aload_n E hl 0 dL_law_257 rfl ?_
  refine k_iload E hl 4 dL_law_258 rfl ?_
  refine lv_iconst (v := (3 : Int32)) E.hx E.hb dL_law_260 ic_3 ?_
  refine lv_iadd E.hx E.hb dL_law_261 ?_
  obtain ⟨hin, hf⟩ := oI hf
  obtain ⟨x_3, ex_3, hf⟩ := oL hf
  refine va_sld E.hx E.hb hX hbl hbA hW.2.2 hin dL_law_262 ?_
  refine k_topi ex_3 ?_
  refine k_aload_n E hl 0 dL_law_263 rfl ?_
  refine k_iload E hl 4 dL_law_264 rfl ?_
  refine lv_iconst (v := (4 : Int32)) E.hx E.hb dL_law_266 ic_4 ?_
  refine lv_iadd E.hx E.hb dL_law_267 ?_
  obtain ⟨hin, hf⟩ := oI hf
  obtain ⟨x_4, ex_4, hf⟩ := oL hf
  refine va_sld E.hx E.hb hX hbl hbA hW.2.2 hin dL_law_268 ?_
  refine k_topi ex_4 ?_
  refine k_aload_n E hl 0 dL_law_269 rfl ?_
  refine k_iload E hl 4 dL_law_270 rfl ?_
  refine lv_iconst (v := (5 : Int32)) E.hx E.hb dL_law_272 ic_5 ?_
  refine lv_iadd E.hx E.hb dL_law_273 ?_
  obtain ⟨hin, hf⟩ := oI hf
  obtain ⟨x_5, ex_5, hf⟩ := oL hf
  refine va_sld E.hx E.hb hX hbl hbA hW.2.2 hin dL_law_274 ?_
  refine k_topi ex_5 ?_
  obtain ⟨p1in_6, r_7, hg, hf⟩ := ob2 hf
  refine k_callVi (As := [.int x_1, .int x_2, .int x_3, .int x_4, .int x_5]) (rest := []) (ws2 := fun u => (List.flatten [wMCo k a_p1 (a_p1in 0) (a_p1ou 0) (a_p1ru 0) (a_p1no 0) (a_p1fo 0) (a_p1rd 0) (a_p1pa 0) (svV sa_0 so_0) p1_0, wBytes k a_p1in 600 (u), wBytes k a_p1ou 1024 p1ou_0, wRules k a_p1ru p1ru_0, wCourt k a_p1no p1no_0, wCourt k a_p1fo p1fo_0, wReader k a_p1rd (a_p1in 0) (a_p1fo 0) (a_p1rr 0) p1rd_0, wRules k a_p1rr p1rr_0, wPast k a_p1pa pp_0 p1pa_0, wModel k a_p2 p2_0, wJArr k a_p3 1 p3_0] ++ savW k sa_0 so_0) ++ poolW k pp_0 p1pa_0.2) (c_X8_feed n l k a_p1 a_p1in a_p1ou a_p1ru a_p1no a_p1fo a_p1rd a_p1pa (svV sa_0 so_0) p1_0 600 p1in_0 x_1 x_2 x_3 x_4 x_5 (p1in_6, r_7) hg) E vl_L_116 dL_law_275 rfl (posOf [1, 2, 2, 3, 12, 12, 1, 3, 2, 13, 1] [0, 1]) 6 0 hW hA hl rfl (law_map (ln := [1, 2, 2, 3, 12, 12, 1, 3, 2, 13, 1]) (is := [0, 1]) (cs := [wMCo k a_p1 (a_p1in 0) (a_p1ou 0) (a_p1ru 0) (a_p1no 0) (a_p1fo 0) (a_p1rd 0) (a_p1pa 0) (svV sa_0 so_0) p1_0, wBytes k a_p1in 600 p1in_0]) (fl2 _ _) rfl (by decide) rfl) rfl rfl ⟨Nat.le_of_ble_eq_true rfl, Nat.le_of_ble_eq_true rfl⟩ ⟨by show _ ≤ 601024; omega, by show _ ≤ 7293034; omega⟩ (Nat.le_of_ble_eq_true rfl) rfl (fun _ => rfl) (fun u => law_put (ln := [1, 2, 2, 3, 12, 12, 1, 3, 2, 13, 1]) (is := [0, 1]) (cs0 := [wMCo k a_p1 (a_p1in 0) (a_p1ou 0) (a_p1ru 0) (a_p1no 0) (a_p1fo 0) (a_p1rd 0) (a_p1pa 0) (svV sa_0 so_0) p1_0, wBytes k a_p1in 600 p1in_0]) (cs := [wMCo k a_p1 (a_p1in 0) (a_p1ou 0) (a_p1ru 0) (a_p1no 0) (a_p1fo 0) (a_p1rd 0) (a_p1pa 0) (svV sa_0 so_0) p1_0, wBytes k a_p1in 600 (u)]) (fl2 _ _) rfl (by decide) rfl rfl) (fun r u H locs hp hW => ?_)
  cases hp
  have hW : WD k A s.heap ((List.flatten [wMCo k a_p1 (a_p1in 0) (a_p1ou 0) (a_p1ru 0) (a_p1no 0) (a_p1fo 0) (a_p1rd 0) (a_p1pa 0) (svV sa_0 so_0) p1_0, wBytes k a_p1in 600 p1in_6, wBytes k a_p1ou 1024 p1ou_0, wRules k a_p1ru p1ru_0, wCourt k a_p1no p1no_0, wCourt k a_p1fo p1fo_0, wReader k a_p1rd (a_p1in 0) (a_p1fo 0) (a_p1rr 0) p1rd_0, wRules k a_p1rr p1rr_0, wPast k a_p1pa pp_0 p1pa_0, wModel k a_p2 p2_0, wJArr k a_p3 1 p3_0] ++ savW k sa_0 so_0) ++ poolW k pp_0 p1pa_0.2) H locs := hW
  refine k_aload_n E hl 2 dL_law_278 rfl ?_
  refine k_aload_n E hl 0 dL_law_279 rfl ?_
  refine k_iload E hl 4 dL_law_280 rfl ?_
  refine lv_iconst (v := (1 : Int32)) E.hx E.hb dL_law_282 ic_1 ?_
  refine lv_iadd E.hx E.hb dL_law_283 ?_
  obtain ⟨hin, hf⟩ := oI hf
  obtain ⟨x_8, ex_8, hf⟩ := oL hf
  refine va_sld E.hx E.hb hX hbl hbA hW.2.2 hin dL_law_284 ?_
  refine k_topi ex_8 ?_
  refine k_aload_n E hl 0 dL_law_285 rfl ?_
  refine k_iload E hl 4 dL_law_286 rfl ?_
  refine lv_iconst (v := (2 : Int32)) E.hx E.hb dL_law_288 ic_2 ?_
  refine lv_iadd E.hx E.hb dL_law_289 ?_
  obtain ⟨hin, hf⟩ := oI hf
  obtain ⟨x_9, ex_9, hf⟩ := oL hf
  refine va_sld E.hx E.hb hX hbl hbA hW.2.2 hin dL_law_290 ?_
  refine k_topi ex_9 ?_
  refine k_aload_n E hl 0 dL_law_291 rfl ?_
  refine k_iload E hl 4 dL_law_292 rfl ?_
  refine lv_iconst (v := (3 : Int32)) E.hx E.hb dL_law_294 ic_3 ?_
  refine lv_iadd E.hx E.hb dL_law_295 ?_
  obtain ⟨hin, hf⟩ := oI hf
  obtain ⟨x_10, ex_10, hf⟩ := oL hf
  refine va_sld E.hx E.hb hX hbl hbA hW.2.2 hin dL_law_296 ?_
  refine k_topi ex_10 ?_
  refine k_aload_n E hl 0 dL_law_297 rfl ?_
  refine k_iload E hl 4 dL_law_298 rfl ?_
  refine lv_iconst (v := (4 : Int32)) E.hx E.hb dL_law_300 ic_4 ?_
  refine lv_iadd E.hx E.hb dL_law_301 ?_
  obtain ⟨hin, hf⟩ := oI hf
  obtain ⟨x_11, ex_11, hf⟩ := oL hf
  refine va_sld E.hx E.hb hX hbl hbA hW.2.2 hin dL_law_302 ?_
  refine k_topi ex_11 ?_
  refine k_aload_n E hl 0 dL_law_303 rfl ?_
  refine k_iload E hl 4 dL_law_304 rfl ?_
  refine lv_iconst (v := (5 : Int32)) E.hx E.hb dL_law_306 ic_5 ?_
  refine lv_iadd E.hx E.hb dL_law_307 ?_
  obtain ⟨hin, hf⟩ := oI hf
  obtain ⟨x_12, ex_12, hf⟩ := oL hf
  refine va_sld E.hx E.hb hX hbl hbA hW.2.2 hin dL_law_308 ?_
  refine k_topi ex_12 ?_
  obtain ⟨p2_13, r_14, hg, hf⟩ := ob2 hf
  refine k_callVi (As := [.int x_8, .int x_9, .int x_10, .int x_11, .int x_12]) (rest := [.int r_7]) (ws2 := fun u => (List.flatten [wMCo k a_p1 (a_p1in 0) (a_p1ou 0) (a_p1ru 0) (a_p1no 0) (a_p1fo 0) (a_p1rd 0) (a_p1pa 0) (svV sa_0 so_0) p1_0, wBytes k a_p1in 600 p1in_6, wBytes k a_p1ou 1024 p1ou_0, wRules k a_p1ru p1ru_0, wCourt k a_p1no p1no_0, wCourt k a_p1fo p1fo_0, wReader k a_p1rd (a_p1in 0) (a_p1fo 0) (a_p1rr 0) p1rd_0, wRules k a_p1rr p1rr_0, wPast k a_p1pa pp_0 p1pa_0, wModel k a_p2 (u), wJArr k a_p3 1 p3_0] ++ savW k sa_0 so_0) ++ poolW k pp_0 p1pa_0.2) (c_X9_feed n l k a_p2 p2_0 x_8 x_9 x_10 x_11 x_12 (p2_13, r_14) hg) E vl_L_120 dL_law_309 rfl (posOf [1, 2, 2, 3, 12, 12, 1, 3, 2, 13, 1] [9]) 7 38 hW hA hl rfl (law_map (ln := [1, 2, 2, 3, 12, 12, 1, 3, 2, 13, 1]) (is := [9]) (cs := [wModel k a_p2 p2_0]) (fl1 _) rfl (by decide) rfl) rfl rfl ⟨Nat.le_of_ble_eq_true rfl, Nat.le_of_ble_eq_true rfl⟩ ⟨by show _ ≤ 601024; omega, by show _ ≤ 7293034; omega⟩ (Nat.le_of_ble_eq_true rfl) rfl (fun _ => rfl) (fun u => law_put (ln := [1, 2, 2, 3, 12, 12, 1, 3, 2, 13, 1]) (is := [9]) (cs0 := [wModel k a_p2 p2_0]) (cs := [wModel k a_p2 (u)]) (fl1 _) rfl (by decide) rfl rfl) (fun r u H locs hp hW => ?_)
  cases hp
  have hW : WD k A s.heap ((List.flatten [wMCo k a_p1 (a_p1in 0) (a_p1ou 0) (a_p1ru 0) (a_p1no 0) (a_p1fo 0) (a_p1rd 0) (a_p1pa 0) (svV sa_0 so_0) p1_0, wBytes k a_p1in 600 p1in_6, wBytes k a_p1ou 1024 p1ou_0, wRules k a_p1ru p1ru_0, wCourt k a_p1no p1no_0, wCourt k a_p1fo p1fo_0, wReader k a_p1rd (a_p1in 0) (a_p1fo 0) (a_p1rr 0) p1rd_0, wRules k a_p1rr p1rr_0, wPast k a_p1pa pp_0 p1pa_0, wModel k a_p2 p2_13, wJArr k a_p3 1 p3_0] ++ savW k sa_0 so_0) ++ poolW k pp_0 p1pa_0.2) H locs := hW
  refine lv_icmp_eq (tgt := 2474) E.hx E.hb dL_law_312 (by decide) (fun hc => ?_) (fun hc => ?_)
  · have hf := oT hc hf
    exact hgo pp_0 sa_0 _ _ _ _ _ (by omega) (by omega) (by cases hf; exact hW) (lv_sub hl [0, 1, 2, 3, 4] rfl)
  · have hf := oF hc hf
    refine lv_iconst (v := (0 : Int32)) E.hx E.hb dL_law_315 ic_0 ?_
    exact o0 hf
def f_law_1 (n : Nat) (L : Nat) (xs : Nat → Int32) (v4 : Int32) (sv_0 : Value) (p1_0 : OS) (p1in_0 : OS) (p1ou_0 : OS) (p1ru_0 : OS) (p1no_0 : OS) (p1fo_0 : OS) (p1rd_0 : OS) (p1rr_0 : OS) (p1pa_0 : PS) (p2_0 : OS) (p3_0 : Nat → Int64) (so_0 : Option OS) : Option LST :=
  gI L (v4 + (1 : Int32)) (Let (xs (v4 + (1 : Int32)).toNatClampNeg) (fun x_1 : Int32 =>
  bnd2 (f_X8_truncate n sv_0 p1_0 600 p1in_0 x_1) (fun (p1in_2 : OS) (r_3 : Int32) =>
  gI L (v4 + (1 : Int32)) (Let (xs (v4 + (1 : Int32)).toNatClampNeg) (fun x_4 : Int32 =>
  bnd2 (f_X9_truncate n p2_0 x_4) (fun (p2_5 : OS) (r_6 : Int32) =>
  if r_3 = r_6 then (
  some (p1_0, p1in_2, p1ou_0, p1ru_0, p1no_0, p1fo_0, p1rd_0, p1rr_0, p1pa_0, p2_5, p3_0, so_0)) else (
  none)))))))
set_option maxHeartbeats 4000000 in
set_option maxRecDepth 100000 in
theorem c_law_1 {p : Program} {l : Launch} {e : Env} {s : State} {m : MethodId} {below : List Frame} {meth : Method} {c : Code} {A : Nat → Prop} {Q : State → Prop} {b L : Nat} {xs : Nat → Int32} {k : KT} (n : Nat) (hE : EH k) (hx : XH l k) (hN : CCH k) (E : E0 p s m c cL_law 9 RL k A) (hX : va_X b L xs s s.heap) (hbl : b < s.heap.size) (hbA : ¬ A b) (hA : ∀ q : Nat, s.heap.size ≤ q → A q) (a_p1 : Nat → Nat) (a_p1in : Nat → Nat) (a_p1ou : Nat → Nat) (a_p1ru : Nat → Nat) (a_p1no : Nat → Nat) (a_p1fo : Nat → Nat) (a_p1rd : Nat → Nat) (a_p1rr : Nat → Nat) (a_p1pa : Nat → Nat) (a_p2 : Nat → Nat) (a_p3 : Nat → Nat) (pp_0 : Nat → Nat → Nat) (sa_0 : Nat → Nat) (v4 : Int32) (p1_0 : OS) (p1in_0 : OS) (p1ou_0 : OS) (p1ru_0 : OS) (p1no_0 : OS) (p1fo_0 : OS) (p1rd_0 : OS) (p1rr_0 : OS) (p1pa_0 : PS) (p2_0 : OS) (p3_0 : Nat → Int64) (so_0 : Option OS) (res : LST) (hf : f_law_1 n L xs v4 (svV sa_0 so_0) p1_0 p1in_0 p1ou_0 p1ru_0 p1no_0 p1fo_0 p1rd_0 p1rr_0 p1pa_0 p2_0 p3_0 so_0 = some res)
    (H : Heap) (locs : List Loc) (ls : Array Slot) (c0 s0 : Nat) (hc0 : c0 + 40 ≤ 601024) (hs0 : s0 + 8000 ≤ 7293034) (hW : WD k A s.heap ((List.flatten [wMCo k a_p1 (a_p1in 0) (a_p1ou 0) (a_p1ru 0) (a_p1no 0) (a_p1fo 0) (a_p1rd 0) (a_p1pa 0) (svV sa_0 so_0) p1_0, wBytes k a_p1in 600 p1in_0, wBytes k a_p1ou 1024 p1ou_0, wRules k a_p1ru p1ru_0, wCourt k a_p1no p1no_0, wCourt k a_p1fo p1fo_0, wReader k a_p1rd (a_p1in 0) (a_p1fo 0) (a_p1rr 0) p1rd_0, wRules k a_p1rr p1rr_0, wPast k a_p1pa pp_0 p1pa_0, wModel k a_p2 p2_0, wJArr k a_p3 1 p3_0] ++ savW k sa_0 so_0) ++ poolW k pp_0 p1pa_0.2) H locs) (hl : lv_has ls 9 [(0, .ref b), (1, .ref (a_p1 0)), (2, .ref (a_p2 0)), (3, .ref (a_p3 0)), (4, .int v4)])
    (hgo : ∀ (pp : Nat → Nat → Nat) (sa : Nat → Nat) (H : Heap) (locs : List Loc) (ls : Array Slot) (cells slots : Nat), cells ≤ c0 + 40 → slots ≤ s0 + 8000 → WD k A s.heap ((List.flatten [wMCo k a_p1 (a_p1in 0) (a_p1ou 0) (a_p1ru 0) (a_p1no 0) (a_p1fo 0) (a_p1rd 0) (a_p1pa 0) (svV sa (res.2.2.2.2.2.2.2.2.2.2.2)) (res.1), wBytes k a_p1in 600 (res.2.1), wBytes k a_p1ou 1024 (res.2.2.1), wRules k a_p1ru (res.2.2.2.1), wCourt k a_p1no (res.2.2.2.2.1), wCourt k a_p1fo (res.2.2.2.2.2.1), wReader k a_p1rd (a_p1in 0) (a_p1fo 0) (a_p1rr 0) (res.2.2.2.2.2.2.1), wRules k a_p1rr (res.2.2.2.2.2.2.2.1), wPast k a_p1pa pp (res.2.2.2.2.2.2.2.2.1), wModel k a_p2 (res.2.2.2.2.2.2.2.2.2.1), wJArr k a_p3 1 (res.2.2.2.2.2.2.2.2.2.2.1)] ++ savW k sa (res.2.2.2.2.2.2.2.2.2.2.2)) ++ poolW k pp (res.2.2.2.2.2.2.2.2.1).2) H locs → lv_has ls 9 [(0, .ref b), (1, .ref (a_p1 0)), (2, .ref (a_p2 0)), (3, .ref (a_p3 0)), (4, .int v4)] → W p l e room_1 s m #[Value.ref b] below meth c H locs cells slots Q (F0 m 2474 ls [])) :
    W p l e room_1 s m #[Value.ref b] below meth c H locs c0 s0 Q (F0 m 317 ls []) := by
  unfold f_law_1 at hf
  refine k_aload_n E hl 1 dL_law_317 rfl ?_
  refine k_aload_n E hl 0 dL_law_318 rfl ?_
  refine k_iload E hl 4 dL_law_319 rfl ?_
  refine lv_iconst (v := (1 : Int32)) E.hx E.hb dL_law_321 ic_1 ?_
  refine lv_iadd E.hx E.hb dL_law_322 ?_
  obtain ⟨hin, hf⟩ := oI hf
  obtain ⟨x_1, ex_1, hf⟩ := oL hf
  refine va_sld E.hx E.hb hX hbl hbA hW.2.2 hin dL_law_323 ?_
  refine k_topi ex_1 ?_
  obtain ⟨p1in_2, r_3, hg, hf⟩ := ob2 hf
  refine k_callVi (As := [.int x_1]) (rest := []) (ws2 := fun u => (List.flatten [wMCo k a_p1 (a_p1in 0) (a_p1ou 0) (a_p1ru 0) (a_p1no 0) (a_p1fo 0) (a_p1rd 0) (a_p1pa 0) (svV sa_0 so_0) p1_0, wBytes k a_p1in 600 (u), wBytes k a_p1ou 1024 p1ou_0, wRules k a_p1ru p1ru_0, wCourt k a_p1no p1no_0, wCourt k a_p1fo p1fo_0, wReader k a_p1rd (a_p1in 0) (a_p1fo 0) (a_p1rr 0) p1rd_0, wRules k a_p1rr p1rr_0, wPast k a_p1pa pp_0 p1pa_0, wModel k a_p2 p2_0, wJArr k a_p3 1 p3_0] ++ savW k sa_0 so_0) ++ poolW k pp_0 p1pa_0.2) (c_X8_truncate n l k a_p1 a_p1in a_p1ou a_p1ru a_p1no a_p1fo a_p1rd a_p1pa (svV sa_0 so_0) p1_0 600 p1in_0 x_1 (p1in_2, r_3) hg) E vl_L_121 dL_law_324 rfl (posOf [1, 2, 2, 3, 12, 12, 1, 3, 2, 13, 1] [0, 1]) 6 0 hW hA hl rfl (law_map (ln := [1, 2, 2, 3, 12, 12, 1, 3, 2, 13, 1]) (is := [0, 1]) (cs := [wMCo k a_p1 (a_p1in 0) (a_p1ou 0) (a_p1ru 0) (a_p1no 0) (a_p1fo 0) (a_p1rd 0) (a_p1pa 0) (svV sa_0 so_0) p1_0, wBytes k a_p1in 600 p1in_0]) (fl2 _ _) rfl (by decide) rfl) rfl rfl ⟨Nat.le_of_ble_eq_true rfl, Nat.le_of_ble_eq_true rfl⟩ ⟨by show _ ≤ 601024; omega, by show _ ≤ 7293034; omega⟩ (Nat.le_of_ble_eq_true rfl) rfl (fun _ => rfl) (fun u => law_put (ln := [1, 2, 2, 3, 12, 12, 1, 3, 2, 13, 1]) (is := [0, 1]) (cs0 := [wMCo k a_p1 (a_p1in 0) (a_p1ou 0) (a_p1ru 0) (a_p1no 0) (a_p1fo 0) (a_p1rd 0) (a_p1pa 0) (svV sa_0 so_0) p1_0, wBytes k a_p1in 600 p1in_0]) (cs := [wMCo k a_p1 (a_p1in 0) (a_p1ou 0) (a_p1ru 0) (a_p1no 0) (a_p1fo 0) (a_p1rd 0) (a_p1pa 0) (svV sa_0 so_0) p1_0, wBytes k a_p1in 600 (u)]) (fl2 _ _) rfl (by decide) rfl rfl) (fun r u H locs hp hW => ?_)
  cases hp
  have hW : WD k A s.heap ((List.flatten [wMCo k a_p1 (a_p1in 0) (a_p1ou 0) (a_p1ru 0) (a_p1no 0) (a_p1fo 0) (a_p1rd 0) (a_p1pa 0) (svV sa_0 so_0) p1_0, wBytes k a_p1in 600 p1in_2, wBytes k a_p1ou 1024 p1ou_0, wRules k a_p1ru p1ru_0, wCourt k a_p1no p1no_0, wCourt k a_p1fo p1fo_0, wReader k a_p1rd (a_p1in 0) (a_p1fo 0) (a_p1rr 0) p1rd_0, wRules k a_p1rr p1rr_0, wPast k a_p1pa pp_0 p1pa_0, wModel k a_p2 p2_0, wJArr k a_p3 1 p3_0] ++ savW k sa_0 so_0) ++ poolW k pp_0 p1pa_0.2) H locs := hW
  refine k_aload_n E hl 2 dL_law_327 rfl ?_
  refine k_aload_n E hl 0 dL_law_328 rfl ?_
  refine k_iload E hl 4 dL_law_329 rfl ?_
  refine lv_iconst (v := (1 : Int32)) E.hx E.hb dL_law_331 ic_1 ?_
  refine lv_iadd E.hx E.hb dL_law_332 ?_
  obtain ⟨hin, hf⟩ := oI hf
  obtain ⟨x_4, ex_4, hf⟩ := oL hf
  refine va_sld E.hx E.hb hX hbl hbA hW.2.2 hin dL_law_333 ?_
  refine k_topi ex_4 ?_
  obtain ⟨p2_5, r_6, hg, hf⟩ := ob2 hf
  refine k_callVi (As := [.int x_4]) (rest := [.int r_3]) (ws2 := fun u => (List.flatten [wMCo k a_p1 (a_p1in 0) (a_p1ou 0) (a_p1ru 0) (a_p1no 0) (a_p1fo 0) (a_p1rd 0) (a_p1pa 0) (svV sa_0 so_0) p1_0, wBytes k a_p1in 600 p1in_2, wBytes k a_p1ou 1024 p1ou_0, wRules k a_p1ru p1ru_0, wCourt k a_p1no p1no_0, wCourt k a_p1fo p1fo_0, wReader k a_p1rd (a_p1in 0) (a_p1fo 0) (a_p1rr 0) p1rd_0, wRules k a_p1rr p1rr_0, wPast k a_p1pa pp_0 p1pa_0, wModel k a_p2 (u), wJArr k a_p3 1 p3_0] ++ savW k sa_0 so_0) ++ poolW k pp_0 p1pa_0.2) (c_X9_truncate n l k a_p2 p2_0 x_4 (p2_5, r_6) hg) E vl_L_125 dL_law_334 rfl (posOf [1, 2, 2, 3, 12, 12, 1, 3, 2, 13, 1] [9]) 7 38 hW hA hl rfl (law_map (ln := [1, 2, 2, 3, 12, 12, 1, 3, 2, 13, 1]) (is := [9]) (cs := [wModel k a_p2 p2_0]) (fl1 _) rfl (by decide) rfl) rfl rfl ⟨Nat.le_of_ble_eq_true rfl, Nat.le_of_ble_eq_true rfl⟩ ⟨by show _ ≤ 601024; omega, by show _ ≤ 7293034; omega⟩ (Nat.le_of_ble_eq_true rfl) rfl (fun _ => rfl) (fun u => law_put (ln := [1, 2, 2, 3, 12, 12, 1, 3, 2, 13, 1]) (is := [9]) (cs0 := [wModel k a_p2 p2_0]) (cs := [wModel k a_p2 (u)]) (fl1 _) rfl (by decide) rfl rfl) (fun r u H locs hp hW => ?_)
  cases hp
  have hW : WD k A s.heap ((List.flatten [wMCo k a_p1 (a_p1in 0) (a_p1ou 0) (a_p1ru 0) (a_p1no 0) (a_p1fo 0) (a_p1rd 0) (a_p1pa 0) (svV sa_0 so_0) p1_0, wBytes k a_p1in 600 p1in_2, wBytes k a_p1ou 1024 p1ou_0, wRules k a_p1ru p1ru_0, wCourt k a_p1no p1no_0, wCourt k a_p1fo p1fo_0, wReader k a_p1rd (a_p1in 0) (a_p1fo 0) (a_p1rr 0) p1rd_0, wRules k a_p1rr p1rr_0, wPast k a_p1pa pp_0 p1pa_0, wModel k a_p2 p2_5, wJArr k a_p3 1 p3_0] ++ savW k sa_0 so_0) ++ poolW k pp_0 p1pa_0.2) H locs := hW
  refine lv_icmp_eq (tgt := 2474) E.hx E.hb dL_law_337 (by decide) (fun hc => ?_) (fun hc => ?_)
  · have hf := oT hc hf
    exact hgo pp_0 sa_0 _ _ _ _ _ (by omega) (by omega) (by cases hf; exact hW) (lv_sub hl [0, 1, 2, 3, 4] rfl)
  · have hf := oF hc hf
    refine lv_iconst (v := (0 : Int32)) E.hx E.hb dL_law_340 ic_0 ?_
    exact o0 hf
def f_law_2 (n : Nat) (L : Nat) (xs : Nat → Int32) (v4 : Int32) (sv_0 : Value) (p1_0 : OS) (p1in_0 : OS) (p1ou_0 : OS) (p1ru_0 : OS) (p1no_0 : OS) (p1fo_0 : OS) (p1rd_0 : OS) (p1rr_0 : OS) (p1pa_0 : PS) (p2_0 : OS) (p3_0 : Nat → Int64) (so_0 : Option OS) : Option LST :=
  bnd9 (f_X8_parse n sv_0 p1_0 600 p1in_0 p1ru_0 p1no_0 p1fo_0 p1rd_0 p1rr_0 p1pa_0) (fun (p1_1 : OS) (p1in_2 : OS) (p1ru_3 : OS) (p1no_4 : OS) (p1fo_5 : OS) (p1rd_6 : OS) (p1rr_7 : OS) (p1pa_8 : PS) (r_9 : Int32) =>
  bnd2 (f_X9_parse n p2_0) (fun (p2_10 : OS) (r_11 : Int32) =>
  if r_9 = r_11 then (
  some (p1_1, p1in_2, p1ou_0, p1ru_3, p1no_4, p1fo_5, p1rd_6, p1rr_7, p1pa_8, p2_10, p3_0, so_0)) else (
  none)))
set_option maxHeartbeats 4000000 in
set_option maxRecDepth 100000 in
theorem c_law_2 {p : Program} {l : Launch} {e : Env} {s : State} {m : MethodId} {below : List Frame} {meth : Method} {c : Code} {A : Nat → Prop} {Q : State → Prop} {b L : Nat} {xs : Nat → Int32} {k : KT} (n : Nat) (hE : EH k) (hx : XH l k) (hN : CCH k) (E : E0 p s m c cL_law 9 RL k A) (hX : va_X b L xs s s.heap) (hbl : b < s.heap.size) (hbA : ¬ A b) (hA : ∀ q : Nat, s.heap.size ≤ q → A q) (a_p1 : Nat → Nat) (a_p1in : Nat → Nat) (a_p1ou : Nat → Nat) (a_p1ru : Nat → Nat) (a_p1no : Nat → Nat) (a_p1fo : Nat → Nat) (a_p1rd : Nat → Nat) (a_p1rr : Nat → Nat) (a_p1pa : Nat → Nat) (a_p2 : Nat → Nat) (a_p3 : Nat → Nat) (pp_0 : Nat → Nat → Nat) (sa_0 : Nat → Nat) (v4 : Int32) (p1_0 : OS) (p1in_0 : OS) (p1ou_0 : OS) (p1ru_0 : OS) (p1no_0 : OS) (p1fo_0 : OS) (p1rd_0 : OS) (p1rr_0 : OS) (p1pa_0 : PS) (p2_0 : OS) (p3_0 : Nat → Int64) (so_0 : Option OS) (res : LST) (hf : f_law_2 n L xs v4 (svV sa_0 so_0) p1_0 p1in_0 p1ou_0 p1ru_0 p1no_0 p1fo_0 p1rd_0 p1rr_0 p1pa_0 p2_0 p3_0 so_0 = some res)
    (H : Heap) (locs : List Loc) (ls : Array Slot) (c0 s0 : Nat) (hc0 : c0 + 40 ≤ 601024) (hs0 : s0 + 8000 ≤ 7293034) (hW : WD k A s.heap ((List.flatten [wMCo k a_p1 (a_p1in 0) (a_p1ou 0) (a_p1ru 0) (a_p1no 0) (a_p1fo 0) (a_p1rd 0) (a_p1pa 0) (svV sa_0 so_0) p1_0, wBytes k a_p1in 600 p1in_0, wBytes k a_p1ou 1024 p1ou_0, wRules k a_p1ru p1ru_0, wCourt k a_p1no p1no_0, wCourt k a_p1fo p1fo_0, wReader k a_p1rd (a_p1in 0) (a_p1fo 0) (a_p1rr 0) p1rd_0, wRules k a_p1rr p1rr_0, wPast k a_p1pa pp_0 p1pa_0, wModel k a_p2 p2_0, wJArr k a_p3 1 p3_0] ++ savW k sa_0 so_0) ++ poolW k pp_0 p1pa_0.2) H locs) (hl : lv_has ls 9 [(0, .ref b), (1, .ref (a_p1 0)), (2, .ref (a_p2 0)), (3, .ref (a_p3 0)), (4, .int v4)])
    (hgo : ∀ (pp : Nat → Nat → Nat) (sa : Nat → Nat) (H : Heap) (locs : List Loc) (ls : Array Slot) (cells slots : Nat), cells ≤ c0 + 40 → slots ≤ s0 + 8000 → WD k A s.heap ((List.flatten [wMCo k a_p1 (a_p1in 0) (a_p1ou 0) (a_p1ru 0) (a_p1no 0) (a_p1fo 0) (a_p1rd 0) (a_p1pa 0) (svV sa (res.2.2.2.2.2.2.2.2.2.2.2)) (res.1), wBytes k a_p1in 600 (res.2.1), wBytes k a_p1ou 1024 (res.2.2.1), wRules k a_p1ru (res.2.2.2.1), wCourt k a_p1no (res.2.2.2.2.1), wCourt k a_p1fo (res.2.2.2.2.2.1), wReader k a_p1rd (a_p1in 0) (a_p1fo 0) (a_p1rr 0) (res.2.2.2.2.2.2.1), wRules k a_p1rr (res.2.2.2.2.2.2.2.1), wPast k a_p1pa pp (res.2.2.2.2.2.2.2.2.1), wModel k a_p2 (res.2.2.2.2.2.2.2.2.2.1), wJArr k a_p3 1 (res.2.2.2.2.2.2.2.2.2.2.1)] ++ savW k sa (res.2.2.2.2.2.2.2.2.2.2.2)) ++ poolW k pp (res.2.2.2.2.2.2.2.2.1).2) H locs → lv_has ls 9 [(0, .ref b), (1, .ref (a_p1 0)), (2, .ref (a_p2 0)), (3, .ref (a_p3 0)), (4, .int v4)] → W p l e room_1 s m #[Value.ref b] below meth c H locs cells slots Q (F0 m 2474 ls [])) :
    W p l e room_1 s m #[Value.ref b] below meth c H locs c0 s0 Q (F0 m 342 ls []) := by
  unfold f_law_2 at hf
  refine k_aload_n E hl 1 dL_law_342 rfl ?_
  obtain ⟨p1_1, p1in_2, p1ru_3, p1no_4, p1fo_5, p1rd_6, p1rr_7, p1pa_8, r_9, hg, hf⟩ := ob9 hf
  have hpl := pl_parse hg
  refine k_callVi (As := []) (rest := []) (ws2 := fun u => (List.flatten [wMCo k a_p1 (a_p1in 0) (a_p1ou 0) (a_p1ru 0) (a_p1no 0) (a_p1fo 0) (a_p1rd 0) (a_p1pa 0) (svV sa_0 so_0) (u.1), wBytes k a_p1in 600 (u.2.1), wBytes k a_p1ou 1024 p1ou_0, wRules k a_p1ru (u.2.2.1), wCourt k a_p1no (u.2.2.2.1), wCourt k a_p1fo (u.2.2.2.2.1), wReader k a_p1rd (a_p1in 0) (a_p1fo 0) (a_p1rr 0) (u.2.2.2.2.2.1), wRules k a_p1rr (u.2.2.2.2.2.2.1), wPast k a_p1pa pp_0 (u.2.2.2.2.2.2.2), wModel k a_p2 p2_0, wJArr k a_p3 1 p3_0] ++ savW k sa_0 so_0) ++ poolW k pp_0 p1pa_0.2) (c_X8_parse n l k hE a_p1 a_p1in a_p1ou a_p1ru a_p1no a_p1fo a_p1rd a_p1rr a_p1pa pp_0 (svV sa_0 so_0) p1_0 600 p1in_0 p1ru_0 p1no_0 p1fo_0 p1rd_0 p1rr_0 p1pa_0 (p1_1, p1in_2, p1ru_3, p1no_4, p1fo_5, p1rd_6, p1rr_7, p1pa_8, r_9) hg) E vl_L_126 dL_law_343 rfl (posOf [1, 2, 2, 3, 12, 12, 1, 3, 2, 13, 1] [0, 1, 3, 4, 5, 6, 7, 8]) 6 0 hW hA hl rfl (law_map (ln := [1, 2, 2, 3, 12, 12, 1, 3, 2, 13, 1]) (is := [0, 1, 3, 4, 5, 6, 7, 8]) (cs := [wMCo k a_p1 (a_p1in 0) (a_p1ou 0) (a_p1ru 0) (a_p1no 0) (a_p1fo 0) (a_p1rd 0) (a_p1pa 0) (svV sa_0 so_0) p1_0, wBytes k a_p1in 600 p1in_0, wRules k a_p1ru p1ru_0, wCourt k a_p1no p1no_0, wCourt k a_p1fo p1fo_0, wReader k a_p1rd (a_p1in 0) (a_p1fo 0) (a_p1rr 0) p1rd_0, wRules k a_p1rr p1rr_0, wPast k a_p1pa pp_0 p1pa_0]) (fl8 _ _ _ _ _ _ _ _) rfl (by decide) rfl) rfl rfl ⟨Nat.le_of_ble_eq_true rfl, Nat.le_of_ble_eq_true rfl⟩ ⟨by show _ ≤ 601024; omega, by show _ ≤ 7293034; omega⟩ (Nat.le_of_ble_eq_true rfl) rfl (fun _ => rfl) (fun u => law_put (ln := [1, 2, 2, 3, 12, 12, 1, 3, 2, 13, 1]) (is := [0, 1, 3, 4, 5, 6, 7, 8]) (cs0 := [wMCo k a_p1 (a_p1in 0) (a_p1ou 0) (a_p1ru 0) (a_p1no 0) (a_p1fo 0) (a_p1rd 0) (a_p1pa 0) (svV sa_0 so_0) p1_0, wBytes k a_p1in 600 p1in_0, wRules k a_p1ru p1ru_0, wCourt k a_p1no p1no_0, wCourt k a_p1fo p1fo_0, wReader k a_p1rd (a_p1in 0) (a_p1fo 0) (a_p1rr 0) p1rd_0, wRules k a_p1rr p1rr_0, wPast k a_p1pa pp_0 p1pa_0]) (cs := [wMCo k a_p1 (a_p1in 0) (a_p1ou 0) (a_p1ru 0) (a_p1no 0) (a_p1fo 0) (a_p1rd 0) (a_p1pa 0) (svV sa_0 so_0) (u.1), wBytes k a_p1in 600 (u.2.1), wRules k a_p1ru (u.2.2.1), wCourt k a_p1no (u.2.2.2.1), wCourt k a_p1fo (u.2.2.2.2.1), wReader k a_p1rd (a_p1in 0) (a_p1fo 0) (a_p1rr 0) (u.2.2.2.2.2.1), wRules k a_p1rr (u.2.2.2.2.2.2.1), wPast k a_p1pa pp_0 (u.2.2.2.2.2.2.2)]) (fl8 _ _ _ _ _ _ _ _) rfl (by decide) rfl rfl) (fun r u H locs hp hW => ?_)
  obtain ⟨u0, u1, u2, u3, u4, u5, u6, u7⟩ := u
  try dsimp only at hp
  cases hp
  have hW : WD k A s.heap ((List.flatten [wMCo k a_p1 (a_p1in 0) (a_p1ou 0) (a_p1ru 0) (a_p1no 0) (a_p1fo 0) (a_p1rd 0) (a_p1pa 0) (svV sa_0 so_0) p1_1, wBytes k a_p1in 600 p1in_2, wBytes k a_p1ou 1024 p1ou_0, wRules k a_p1ru p1ru_3, wCourt k a_p1no p1no_4, wCourt k a_p1fo p1fo_5, wReader k a_p1rd (a_p1in 0) (a_p1fo 0) (a_p1rr 0) p1rd_6, wRules k a_p1rr p1rr_7, wPast k a_p1pa pp_0 p1pa_8, wModel k a_p2 p2_0, wJArr k a_p3 1 p3_0] ++ savW k sa_0 so_0) ++ poolW k pp_0 p1pa_8.2) H locs := by rw [hpl]; exact hW
  refine k_aload_n E hl 2 dL_law_346 rfl ?_
  obtain ⟨p2_10, r_11, hg, hf⟩ := ob2 hf
  refine k_callVi (As := []) (rest := [.int r_9]) (ws2 := fun u => (List.flatten [wMCo k a_p1 (a_p1in 0) (a_p1ou 0) (a_p1ru 0) (a_p1no 0) (a_p1fo 0) (a_p1rd 0) (a_p1pa 0) (svV sa_0 so_0) p1_1, wBytes k a_p1in 600 p1in_2, wBytes k a_p1ou 1024 p1ou_0, wRules k a_p1ru p1ru_3, wCourt k a_p1no p1no_4, wCourt k a_p1fo p1fo_5, wReader k a_p1rd (a_p1in 0) (a_p1fo 0) (a_p1rr 0) p1rd_6, wRules k a_p1rr p1rr_7, wPast k a_p1pa pp_0 p1pa_8, wModel k a_p2 (u), wJArr k a_p3 1 p3_0] ++ savW k sa_0 so_0) ++ poolW k pp_0 p1pa_8.2) (c_X9_parse n l k hE a_p2 p2_0 (p2_10, r_11) hg) E vl_L_129 dL_law_347 rfl (posOf [1, 2, 2, 3, 12, 12, 1, 3, 2, 13, 1] [9]) 7 38 hW hA hl rfl (law_map (ln := [1, 2, 2, 3, 12, 12, 1, 3, 2, 13, 1]) (is := [9]) (cs := [wModel k a_p2 p2_0]) (fl1 _) rfl (by decide) rfl) rfl rfl ⟨Nat.le_of_ble_eq_true rfl, Nat.le_of_ble_eq_true rfl⟩ ⟨by show _ ≤ 601024; omega, by show _ ≤ 7293034; omega⟩ (Nat.le_of_ble_eq_true rfl) rfl (fun _ => rfl) (fun u => law_put (ln := [1, 2, 2, 3, 12, 12, 1, 3, 2, 13, 1]) (is := [9]) (cs0 := [wModel k a_p2 p2_0]) (cs := [wModel k a_p2 (u)]) (fl1 _) rfl (by decide) rfl rfl) (fun r u H locs hp hW => ?_)
  cases hp
  have hW : WD k A s.heap ((List.flatten [wMCo k a_p1 (a_p1in 0) (a_p1ou 0) (a_p1ru 0) (a_p1no 0) (a_p1fo 0) (a_p1rd 0) (a_p1pa 0) (svV sa_0 so_0) p1_1, wBytes k a_p1in 600 p1in_2, wBytes k a_p1ou 1024 p1ou_0, wRules k a_p1ru p1ru_3, wCourt k a_p1no p1no_4, wCourt k a_p1fo p1fo_5, wReader k a_p1rd (a_p1in 0) (a_p1fo 0) (a_p1rr 0) p1rd_6, wRules k a_p1rr p1rr_7, wPast k a_p1pa pp_0 p1pa_8, wModel k a_p2 p2_10, wJArr k a_p3 1 p3_0] ++ savW k sa_0 so_0) ++ poolW k pp_0 p1pa_8.2) H locs := hW
  refine lv_icmp_eq (tgt := 2474) E.hx E.hb dL_law_350 (by decide) (fun hc => ?_) (fun hc => ?_)
  · have hf := oT hc hf
    exact hgo pp_0 sa_0 _ _ _ _ _ (by omega) (by omega) (by cases hf; exact hW) (lv_sub hl [0, 1, 2, 3, 4] rfl)
  · have hf := oF hc hf
    refine lv_iconst (v := (0 : Int32)) E.hx E.hb dL_law_353 ic_0 ?_
    exact o0 hf
def f_law_3 (n : Nat) (L : Nat) (xs : Nat → Int32) (v4 : Int32) (sv_0 : Value) (p1_0 : OS) (p1in_0 : OS) (p1ou_0 : OS) (p1ru_0 : OS) (p1no_0 : OS) (p1fo_0 : OS) (p1rd_0 : OS) (p1rr_0 : OS) (p1pa_0 : PS) (p2_0 : OS) (p3_0 : Nat → Int64) (so_0 : Option OS) : Option LST :=
  bnd (f_X8_errorCode n sv_0 p1_0 p1rd_0) (fun (r_1 : Int32) =>
  bnd2 (f_X9_errorCode n p2_0) (fun (p2_2 : OS) (r_3 : Int32) =>
  if r_1 = r_3 then (
  some (p1_0, p1in_0, p1ou_0, p1ru_0, p1no_0, p1fo_0, p1rd_0, p1rr_0, p1pa_0, p2_2, p3_0, so_0)) else (
  none)))
set_option maxHeartbeats 4000000 in
set_option maxRecDepth 100000 in
theorem c_law_3 {p : Program} {l : Launch} {e : Env} {s : State} {m : MethodId} {below : List Frame} {meth : Method} {c : Code} {A : Nat → Prop} {Q : State → Prop} {b L : Nat} {xs : Nat → Int32} {k : KT} (n : Nat) (hE : EH k) (hx : XH l k) (hN : CCH k) (E : E0 p s m c cL_law 9 RL k A) (hX : va_X b L xs s s.heap) (hbl : b < s.heap.size) (hbA : ¬ A b) (hA : ∀ q : Nat, s.heap.size ≤ q → A q) (a_p1 : Nat → Nat) (a_p1in : Nat → Nat) (a_p1ou : Nat → Nat) (a_p1ru : Nat → Nat) (a_p1no : Nat → Nat) (a_p1fo : Nat → Nat) (a_p1rd : Nat → Nat) (a_p1rr : Nat → Nat) (a_p1pa : Nat → Nat) (a_p2 : Nat → Nat) (a_p3 : Nat → Nat) (pp_0 : Nat → Nat → Nat) (sa_0 : Nat → Nat) (v4 : Int32) (p1_0 : OS) (p1in_0 : OS) (p1ou_0 : OS) (p1ru_0 : OS) (p1no_0 : OS) (p1fo_0 : OS) (p1rd_0 : OS) (p1rr_0 : OS) (p1pa_0 : PS) (p2_0 : OS) (p3_0 : Nat → Int64) (so_0 : Option OS) (res : LST) (hf : f_law_3 n L xs v4 (svV sa_0 so_0) p1_0 p1in_0 p1ou_0 p1ru_0 p1no_0 p1fo_0 p1rd_0 p1rr_0 p1pa_0 p2_0 p3_0 so_0 = some res)
    (H : Heap) (locs : List Loc) (ls : Array Slot) (c0 s0 : Nat) (hc0 : c0 + 40 ≤ 601024) (hs0 : s0 + 8000 ≤ 7293034) (hW : WD k A s.heap ((List.flatten [wMCo k a_p1 (a_p1in 0) (a_p1ou 0) (a_p1ru 0) (a_p1no 0) (a_p1fo 0) (a_p1rd 0) (a_p1pa 0) (svV sa_0 so_0) p1_0, wBytes k a_p1in 600 p1in_0, wBytes k a_p1ou 1024 p1ou_0, wRules k a_p1ru p1ru_0, wCourt k a_p1no p1no_0, wCourt k a_p1fo p1fo_0, wReader k a_p1rd (a_p1in 0) (a_p1fo 0) (a_p1rr 0) p1rd_0, wRules k a_p1rr p1rr_0, wPast k a_p1pa pp_0 p1pa_0, wModel k a_p2 p2_0, wJArr k a_p3 1 p3_0] ++ savW k sa_0 so_0) ++ poolW k pp_0 p1pa_0.2) H locs) (hl : lv_has ls 9 [(0, .ref b), (1, .ref (a_p1 0)), (2, .ref (a_p2 0)), (3, .ref (a_p3 0)), (4, .int v4)])
    (hgo : ∀ (pp : Nat → Nat → Nat) (sa : Nat → Nat) (H : Heap) (locs : List Loc) (ls : Array Slot) (cells slots : Nat), cells ≤ c0 + 40 → slots ≤ s0 + 8000 → WD k A s.heap ((List.flatten [wMCo k a_p1 (a_p1in 0) (a_p1ou 0) (a_p1ru 0) (a_p1no 0) (a_p1fo 0) (a_p1rd 0) (a_p1pa 0) (svV sa (res.2.2.2.2.2.2.2.2.2.2.2)) (res.1), wBytes k a_p1in 600 (res.2.1), wBytes k a_p1ou 1024 (res.2.2.1), wRules k a_p1ru (res.2.2.2.1), wCourt k a_p1no (res.2.2.2.2.1), wCourt k a_p1fo (res.2.2.2.2.2.1), wReader k a_p1rd (a_p1in 0) (a_p1fo 0) (a_p1rr 0) (res.2.2.2.2.2.2.1), wRules k a_p1rr (res.2.2.2.2.2.2.2.1), wPast k a_p1pa pp (res.2.2.2.2.2.2.2.2.1), wModel k a_p2 (res.2.2.2.2.2.2.2.2.2.1), wJArr k a_p3 1 (res.2.2.2.2.2.2.2.2.2.2.1)] ++ savW k sa (res.2.2.2.2.2.2.2.2.2.2.2)) ++ poolW k pp (res.2.2.2.2.2.2.2.2.1).2) H locs → lv_has ls 9 [(0, .ref b), (1, .ref (a_p1 0)), (2, .ref (a_p2 0)), (3, .ref (a_p3 0)), (4, .int v4)] → W p l e room_1 s m #[Value.ref b] below meth c H locs cells slots Q (F0 m 2474 ls [])) :
    W p l e room_1 s m #[Value.ref b] below meth c H locs c0 s0 Q (F0 m 355 ls []) := by
  unfold f_law_3 at hf
  refine k_aload_n E hl 1 dL_law_355 rfl ?_
  obtain ⟨r_1, hg, hf⟩ := ob hf
  refine k_callVi (As := []) (rest := []) (ws2 := fun u => (List.flatten [wMCo k a_p1 (a_p1in 0) (a_p1ou 0) (a_p1ru 0) (a_p1no 0) (a_p1fo 0) (a_p1rd 0) (a_p1pa 0) (svV sa_0 so_0) p1_0, wBytes k a_p1in 600 p1in_0, wBytes k a_p1ou 1024 p1ou_0, wRules k a_p1ru p1ru_0, wCourt k a_p1no p1no_0, wCourt k a_p1fo p1fo_0, wReader k a_p1rd (a_p1in 0) (a_p1fo 0) (a_p1rr 0) p1rd_0, wRules k a_p1rr p1rr_0, wPast k a_p1pa pp_0 p1pa_0, wModel k a_p2 p2_0, wJArr k a_p3 1 p3_0] ++ savW k sa_0 so_0) ++ poolW k pp_0 p1pa_0.2) (c_X8_errorCode n l k a_p1 a_p1in a_p1ou a_p1ru a_p1no a_p1fo a_p1rd a_p1rr a_p1pa (svV sa_0 so_0) p1_0 p1rd_0 r_1 hg) E vl_L_130 dL_law_356 rfl (posOf [1, 2, 2, 3, 12, 12, 1, 3, 2, 13, 1] [0, 6]) 6 0 hW hA hl rfl (law_map (ln := [1, 2, 2, 3, 12, 12, 1, 3, 2, 13, 1]) (is := [0, 6]) (cs := [wMCo k a_p1 (a_p1in 0) (a_p1ou 0) (a_p1ru 0) (a_p1no 0) (a_p1fo 0) (a_p1rd 0) (a_p1pa 0) (svV sa_0 so_0) p1_0, wReader k a_p1rd (a_p1in 0) (a_p1fo 0) (a_p1rr 0) p1rd_0]) (fl2 _ _) rfl (by decide) rfl) rfl rfl ⟨Nat.le_of_ble_eq_true rfl, Nat.le_of_ble_eq_true rfl⟩ ⟨by show _ ≤ 601024; omega, by show _ ≤ 7293034; omega⟩ (Nat.le_of_ble_eq_true rfl) rfl (fun _ => rfl) (fun u => law_put (ln := [1, 2, 2, 3, 12, 12, 1, 3, 2, 13, 1]) (is := [0, 6]) (cs0 := [wMCo k a_p1 (a_p1in 0) (a_p1ou 0) (a_p1ru 0) (a_p1no 0) (a_p1fo 0) (a_p1rd 0) (a_p1pa 0) (svV sa_0 so_0) p1_0, wReader k a_p1rd (a_p1in 0) (a_p1fo 0) (a_p1rr 0) p1rd_0]) (cs := [wMCo k a_p1 (a_p1in 0) (a_p1ou 0) (a_p1ru 0) (a_p1no 0) (a_p1fo 0) (a_p1rd 0) (a_p1pa 0) (svV sa_0 so_0) p1_0, wReader k a_p1rd (a_p1in 0) (a_p1fo 0) (a_p1rr 0) p1rd_0]) (fl2 _ _) rfl (by decide) rfl rfl) (fun r u H locs hp hW => ?_)
  cases hp
  have hW : WD k A s.heap ((List.flatten [wMCo k a_p1 (a_p1in 0) (a_p1ou 0) (a_p1ru 0) (a_p1no 0) (a_p1fo 0) (a_p1rd 0) (a_p1pa 0) (svV sa_0 so_0) p1_0, wBytes k a_p1in 600 p1in_0, wBytes k a_p1ou 1024 p1ou_0, wRules k a_p1ru p1ru_0, wCourt k a_p1no p1no_0, wCourt k a_p1fo p1fo_0, wReader k a_p1rd (a_p1in 0) (a_p1fo 0) (a_p1rr 0) p1rd_0, wRules k a_p1rr p1rr_0, wPast k a_p1pa pp_0 p1pa_0, wModel k a_p2 p2_0, wJArr k a_p3 1 p3_0] ++ savW k sa_0 so_0) ++ poolW k pp_0 p1pa_0.2) H locs := hW
  refine k_aload_n E hl 2 dL_law_359 rfl ?_
  obtain ⟨p2_2, r_3, hg, hf⟩ := ob2 hf
  refine k_callVi (As := []) (rest := [.int r_1]) (ws2 := fun u => (List.flatten [wMCo k a_p1 (a_p1in 0) (a_p1ou 0) (a_p1ru 0) (a_p1no 0) (a_p1fo 0) (a_p1rd 0) (a_p1pa 0) (svV sa_0 so_0) p1_0, wBytes k a_p1in 600 p1in_0, wBytes k a_p1ou 1024 p1ou_0, wRules k a_p1ru p1ru_0, wCourt k a_p1no p1no_0, wCourt k a_p1fo p1fo_0, wReader k a_p1rd (a_p1in 0) (a_p1fo 0) (a_p1rr 0) p1rd_0, wRules k a_p1rr p1rr_0, wPast k a_p1pa pp_0 p1pa_0, wModel k a_p2 (u), wJArr k a_p3 1 p3_0] ++ savW k sa_0 so_0) ++ poolW k pp_0 p1pa_0.2) (c_X9_errorCode n l k a_p2 p2_0 (p2_2, r_3) hg) E vl_L_133 dL_law_360 rfl (posOf [1, 2, 2, 3, 12, 12, 1, 3, 2, 13, 1] [9]) 7 38 hW hA hl rfl (law_map (ln := [1, 2, 2, 3, 12, 12, 1, 3, 2, 13, 1]) (is := [9]) (cs := [wModel k a_p2 p2_0]) (fl1 _) rfl (by decide) rfl) rfl rfl ⟨Nat.le_of_ble_eq_true rfl, Nat.le_of_ble_eq_true rfl⟩ ⟨by show _ ≤ 601024; omega, by show _ ≤ 7293034; omega⟩ (Nat.le_of_ble_eq_true rfl) rfl (fun _ => rfl) (fun u => law_put (ln := [1, 2, 2, 3, 12, 12, 1, 3, 2, 13, 1]) (is := [9]) (cs0 := [wModel k a_p2 p2_0]) (cs := [wModel k a_p2 (u)]) (fl1 _) rfl (by decide) rfl rfl) (fun r u H locs hp hW => ?_)
  cases hp
  have hW : WD k A s.heap ((List.flatten [wMCo k a_p1 (a_p1in 0) (a_p1ou 0) (a_p1ru 0) (a_p1no 0) (a_p1fo 0) (a_p1rd 0) (a_p1pa 0) (svV sa_0 so_0) p1_0, wBytes k a_p1in 600 p1in_0, wBytes k a_p1ou 1024 p1ou_0, wRules k a_p1ru p1ru_0, wCourt k a_p1no p1no_0, wCourt k a_p1fo p1fo_0, wReader k a_p1rd (a_p1in 0) (a_p1fo 0) (a_p1rr 0) p1rd_0, wRules k a_p1rr p1rr_0, wPast k a_p1pa pp_0 p1pa_0, wModel k a_p2 p2_2, wJArr k a_p3 1 p3_0] ++ savW k sa_0 so_0) ++ poolW k pp_0 p1pa_0.2) H locs := hW
  refine lv_icmp_eq (tgt := 2474) E.hx E.hb dL_law_363 (by decide) (fun hc => ?_) (fun hc => ?_)
  · have hf := oT hc hf
    exact hgo pp_0 sa_0 _ _ _ _ _ (by omega) (by omega) (by cases hf; exact hW) (lv_sub hl [0, 1, 2, 3, 4] rfl)
  · have hf := oF hc hf
    refine lv_iconst (v := (0 : Int32)) E.hx E.hb dL_law_366 ic_0 ?_
    exact o0 hf
def f_law_4 (n : Nat) (L : Nat) (xs : Nat → Int32) (v4 : Int32) (sv_0 : Value) (p1_0 : OS) (p1in_0 : OS) (p1ou_0 : OS) (p1ru_0 : OS) (p1no_0 : OS) (p1fo_0 : OS) (p1rd_0 : OS) (p1rr_0 : OS) (p1pa_0 : PS) (p2_0 : OS) (p3_0 : Nat → Int64) (so_0 : Option OS) : Option LST :=
  bnd (f_X8_errorOffset n sv_0 p1_0 p1rd_0) (fun (r_1 : Int32) =>
  bnd2 (f_X9_errorOffset n p2_0) (fun (p2_2 : OS) (r_3 : Int32) =>
  if r_1 = r_3 then (
  some (p1_0, p1in_0, p1ou_0, p1ru_0, p1no_0, p1fo_0, p1rd_0, p1rr_0, p1pa_0, p2_2, p3_0, so_0)) else (
  none)))
set_option maxHeartbeats 4000000 in
set_option maxRecDepth 100000 in
theorem c_law_4 {p : Program} {l : Launch} {e : Env} {s : State} {m : MethodId} {below : List Frame} {meth : Method} {c : Code} {A : Nat → Prop} {Q : State → Prop} {b L : Nat} {xs : Nat → Int32} {k : KT} (n : Nat) (hE : EH k) (hx : XH l k) (hN : CCH k) (E : E0 p s m c cL_law 9 RL k A) (hX : va_X b L xs s s.heap) (hbl : b < s.heap.size) (hbA : ¬ A b) (hA : ∀ q : Nat, s.heap.size ≤ q → A q) (a_p1 : Nat → Nat) (a_p1in : Nat → Nat) (a_p1ou : Nat → Nat) (a_p1ru : Nat → Nat) (a_p1no : Nat → Nat) (a_p1fo : Nat → Nat) (a_p1rd : Nat → Nat) (a_p1rr : Nat → Nat) (a_p1pa : Nat → Nat) (a_p2 : Nat → Nat) (a_p3 : Nat → Nat) (pp_0 : Nat → Nat → Nat) (sa_0 : Nat → Nat) (v4 : Int32) (p1_0 : OS) (p1in_0 : OS) (p1ou_0 : OS) (p1ru_0 : OS) (p1no_0 : OS) (p1fo_0 : OS) (p1rd_0 : OS) (p1rr_0 : OS) (p1pa_0 : PS) (p2_0 : OS) (p3_0 : Nat → Int64) (so_0 : Option OS) (res : LST) (hf : f_law_4 n L xs v4 (svV sa_0 so_0) p1_0 p1in_0 p1ou_0 p1ru_0 p1no_0 p1fo_0 p1rd_0 p1rr_0 p1pa_0 p2_0 p3_0 so_0 = some res)
    (H : Heap) (locs : List Loc) (ls : Array Slot) (c0 s0 : Nat) (hc0 : c0 + 40 ≤ 601024) (hs0 : s0 + 8000 ≤ 7293034) (hW : WD k A s.heap ((List.flatten [wMCo k a_p1 (a_p1in 0) (a_p1ou 0) (a_p1ru 0) (a_p1no 0) (a_p1fo 0) (a_p1rd 0) (a_p1pa 0) (svV sa_0 so_0) p1_0, wBytes k a_p1in 600 p1in_0, wBytes k a_p1ou 1024 p1ou_0, wRules k a_p1ru p1ru_0, wCourt k a_p1no p1no_0, wCourt k a_p1fo p1fo_0, wReader k a_p1rd (a_p1in 0) (a_p1fo 0) (a_p1rr 0) p1rd_0, wRules k a_p1rr p1rr_0, wPast k a_p1pa pp_0 p1pa_0, wModel k a_p2 p2_0, wJArr k a_p3 1 p3_0] ++ savW k sa_0 so_0) ++ poolW k pp_0 p1pa_0.2) H locs) (hl : lv_has ls 9 [(0, .ref b), (1, .ref (a_p1 0)), (2, .ref (a_p2 0)), (3, .ref (a_p3 0)), (4, .int v4)])
    (hgo : ∀ (pp : Nat → Nat → Nat) (sa : Nat → Nat) (H : Heap) (locs : List Loc) (ls : Array Slot) (cells slots : Nat), cells ≤ c0 + 40 → slots ≤ s0 + 8000 → WD k A s.heap ((List.flatten [wMCo k a_p1 (a_p1in 0) (a_p1ou 0) (a_p1ru 0) (a_p1no 0) (a_p1fo 0) (a_p1rd 0) (a_p1pa 0) (svV sa (res.2.2.2.2.2.2.2.2.2.2.2)) (res.1), wBytes k a_p1in 600 (res.2.1), wBytes k a_p1ou 1024 (res.2.2.1), wRules k a_p1ru (res.2.2.2.1), wCourt k a_p1no (res.2.2.2.2.1), wCourt k a_p1fo (res.2.2.2.2.2.1), wReader k a_p1rd (a_p1in 0) (a_p1fo 0) (a_p1rr 0) (res.2.2.2.2.2.2.1), wRules k a_p1rr (res.2.2.2.2.2.2.2.1), wPast k a_p1pa pp (res.2.2.2.2.2.2.2.2.1), wModel k a_p2 (res.2.2.2.2.2.2.2.2.2.1), wJArr k a_p3 1 (res.2.2.2.2.2.2.2.2.2.2.1)] ++ savW k sa (res.2.2.2.2.2.2.2.2.2.2.2)) ++ poolW k pp (res.2.2.2.2.2.2.2.2.1).2) H locs → lv_has ls 9 [(0, .ref b), (1, .ref (a_p1 0)), (2, .ref (a_p2 0)), (3, .ref (a_p3 0)), (4, .int v4)] → W p l e room_1 s m #[Value.ref b] below meth c H locs cells slots Q (F0 m 2474 ls [])) :
    W p l e room_1 s m #[Value.ref b] below meth c H locs c0 s0 Q (F0 m 368 ls []) := by
  unfold f_law_4 at hf
  refine k_aload_n E hl 1 dL_law_368 rfl ?_
  obtain ⟨r_1, hg, hf⟩ := ob hf
  refine k_callVi (As := []) (rest := []) (ws2 := fun u => (List.flatten [wMCo k a_p1 (a_p1in 0) (a_p1ou 0) (a_p1ru 0) (a_p1no 0) (a_p1fo 0) (a_p1rd 0) (a_p1pa 0) (svV sa_0 so_0) p1_0, wBytes k a_p1in 600 p1in_0, wBytes k a_p1ou 1024 p1ou_0, wRules k a_p1ru p1ru_0, wCourt k a_p1no p1no_0, wCourt k a_p1fo p1fo_0, wReader k a_p1rd (a_p1in 0) (a_p1fo 0) (a_p1rr 0) p1rd_0, wRules k a_p1rr p1rr_0, wPast k a_p1pa pp_0 p1pa_0, wModel k a_p2 p2_0, wJArr k a_p3 1 p3_0] ++ savW k sa_0 so_0) ++ poolW k pp_0 p1pa_0.2) (c_X8_errorOffset n l k a_p1 a_p1in a_p1ou a_p1ru a_p1no a_p1fo a_p1rd a_p1rr a_p1pa (svV sa_0 so_0) p1_0 p1rd_0 r_1 hg) E vl_L_134 dL_law_369 rfl (posOf [1, 2, 2, 3, 12, 12, 1, 3, 2, 13, 1] [0, 6]) 6 0 hW hA hl rfl (law_map (ln := [1, 2, 2, 3, 12, 12, 1, 3, 2, 13, 1]) (is := [0, 6]) (cs := [wMCo k a_p1 (a_p1in 0) (a_p1ou 0) (a_p1ru 0) (a_p1no 0) (a_p1fo 0) (a_p1rd 0) (a_p1pa 0) (svV sa_0 so_0) p1_0, wReader k a_p1rd (a_p1in 0) (a_p1fo 0) (a_p1rr 0) p1rd_0]) (fl2 _ _) rfl (by decide) rfl) rfl rfl ⟨Nat.le_of_ble_eq_true rfl, Nat.le_of_ble_eq_true rfl⟩ ⟨by show _ ≤ 601024; omega, by show _ ≤ 7293034; omega⟩ (Nat.le_of_ble_eq_true rfl) rfl (fun _ => rfl) (fun u => law_put (ln := [1, 2, 2, 3, 12, 12, 1, 3, 2, 13, 1]) (is := [0, 6]) (cs0 := [wMCo k a_p1 (a_p1in 0) (a_p1ou 0) (a_p1ru 0) (a_p1no 0) (a_p1fo 0) (a_p1rd 0) (a_p1pa 0) (svV sa_0 so_0) p1_0, wReader k a_p1rd (a_p1in 0) (a_p1fo 0) (a_p1rr 0) p1rd_0]) (cs := [wMCo k a_p1 (a_p1in 0) (a_p1ou 0) (a_p1ru 0) (a_p1no 0) (a_p1fo 0) (a_p1rd 0) (a_p1pa 0) (svV sa_0 so_0) p1_0, wReader k a_p1rd (a_p1in 0) (a_p1fo 0) (a_p1rr 0) p1rd_0]) (fl2 _ _) rfl (by decide) rfl rfl) (fun r u H locs hp hW => ?_)
  cases hp
  have hW : WD k A s.heap ((List.flatten [wMCo k a_p1 (a_p1in 0) (a_p1ou 0) (a_p1ru 0) (a_p1no 0) (a_p1fo 0) (a_p1rd 0) (a_p1pa 0) (svV sa_0 so_0) p1_0, wBytes k a_p1in 600 p1in_0, wBytes k a_p1ou 1024 p1ou_0, wRules k a_p1ru p1ru_0, wCourt k a_p1no p1no_0, wCourt k a_p1fo p1fo_0, wReader k a_p1rd (a_p1in 0) (a_p1fo 0) (a_p1rr 0) p1rd_0, wRules k a_p1rr p1rr_0, wPast k a_p1pa pp_0 p1pa_0, wModel k a_p2 p2_0, wJArr k a_p3 1 p3_0] ++ savW k sa_0 so_0) ++ poolW k pp_0 p1pa_0.2) H locs := hW
  refine k_aload_n E hl 2 dL_law_372 rfl ?_
  obtain ⟨p2_2, r_3, hg, hf⟩ := ob2 hf
  refine k_callVi (As := []) (rest := [.int r_1]) (ws2 := fun u => (List.flatten [wMCo k a_p1 (a_p1in 0) (a_p1ou 0) (a_p1ru 0) (a_p1no 0) (a_p1fo 0) (a_p1rd 0) (a_p1pa 0) (svV sa_0 so_0) p1_0, wBytes k a_p1in 600 p1in_0, wBytes k a_p1ou 1024 p1ou_0, wRules k a_p1ru p1ru_0, wCourt k a_p1no p1no_0, wCourt k a_p1fo p1fo_0, wReader k a_p1rd (a_p1in 0) (a_p1fo 0) (a_p1rr 0) p1rd_0, wRules k a_p1rr p1rr_0, wPast k a_p1pa pp_0 p1pa_0, wModel k a_p2 (u), wJArr k a_p3 1 p3_0] ++ savW k sa_0 so_0) ++ poolW k pp_0 p1pa_0.2) (c_X9_errorOffset n l k a_p2 p2_0 (p2_2, r_3) hg) E vl_L_137 dL_law_373 rfl (posOf [1, 2, 2, 3, 12, 12, 1, 3, 2, 13, 1] [9]) 7 38 hW hA hl rfl (law_map (ln := [1, 2, 2, 3, 12, 12, 1, 3, 2, 13, 1]) (is := [9]) (cs := [wModel k a_p2 p2_0]) (fl1 _) rfl (by decide) rfl) rfl rfl ⟨Nat.le_of_ble_eq_true rfl, Nat.le_of_ble_eq_true rfl⟩ ⟨by show _ ≤ 601024; omega, by show _ ≤ 7293034; omega⟩ (Nat.le_of_ble_eq_true rfl) rfl (fun _ => rfl) (fun u => law_put (ln := [1, 2, 2, 3, 12, 12, 1, 3, 2, 13, 1]) (is := [9]) (cs0 := [wModel k a_p2 p2_0]) (cs := [wModel k a_p2 (u)]) (fl1 _) rfl (by decide) rfl rfl) (fun r u H locs hp hW => ?_)
  cases hp
  have hW : WD k A s.heap ((List.flatten [wMCo k a_p1 (a_p1in 0) (a_p1ou 0) (a_p1ru 0) (a_p1no 0) (a_p1fo 0) (a_p1rd 0) (a_p1pa 0) (svV sa_0 so_0) p1_0, wBytes k a_p1in 600 p1in_0, wBytes k a_p1ou 1024 p1ou_0, wRules k a_p1ru p1ru_0, wCourt k a_p1no p1no_0, wCourt k a_p1fo p1fo_0, wReader k a_p1rd (a_p1in 0) (a_p1fo 0) (a_p1rr 0) p1rd_0, wRules k a_p1rr p1rr_0, wPast k a_p1pa pp_0 p1pa_0, wModel k a_p2 p2_2, wJArr k a_p3 1 p3_0] ++ savW k sa_0 so_0) ++ poolW k pp_0 p1pa_0.2) H locs := hW
  refine lv_icmp_eq (tgt := 2474) E.hx E.hb dL_law_376 (by decide) (fun hc => ?_) (fun hc => ?_)
  · have hf := oT hc hf
    exact hgo pp_0 sa_0 _ _ _ _ _ (by omega) (by omega) (by cases hf; exact hW) (lv_sub hl [0, 1, 2, 3, 4] rfl)
  · have hf := oF hc hf
    refine lv_iconst (v := (0 : Int32)) E.hx E.hb dL_law_379 ic_0 ?_
    exact o0 hf
def f_law_5 (n : Nat) (L : Nat) (xs : Nat → Int32) (v4 : Int32) (sv_0 : Value) (p1_0 : OS) (p1in_0 : OS) (p1ou_0 : OS) (p1ru_0 : OS) (p1no_0 : OS) (p1fo_0 : OS) (p1rd_0 : OS) (p1rr_0 : OS) (p1pa_0 : PS) (p2_0 : OS) (p3_0 : Nat → Int64) (so_0 : Option OS) : Option LST :=
  gI L (v4 + (1 : Int32)) (Let (xs (v4 + (1 : Int32)).toNatClampNeg) (fun x_1 : Int32 =>
  bnd (f_X8_count n sv_0 p1_0 p1ru_0 p1no_0 p1pa_0 x_1) (fun (r_2 : Int32) =>
  gI L (v4 + (1 : Int32)) (Let (xs (v4 + (1 : Int32)).toNatClampNeg) (fun x_3 : Int32 =>
  bnd2 (f_X9_count n p2_0 x_3) (fun (p2_4 : OS) (r_5 : Int32) =>
  if r_2 = r_5 then (
  some (p1_0, p1in_0, p1ou_0, p1ru_0, p1no_0, p1fo_0, p1rd_0, p1rr_0, p1pa_0, p2_4, p3_0, so_0)) else (
  none)))))))
set_option maxHeartbeats 4000000 in
set_option maxRecDepth 100000 in
theorem c_law_5 {p : Program} {l : Launch} {e : Env} {s : State} {m : MethodId} {below : List Frame} {meth : Method} {c : Code} {A : Nat → Prop} {Q : State → Prop} {b L : Nat} {xs : Nat → Int32} {k : KT} (n : Nat) (hE : EH k) (hx : XH l k) (hN : CCH k) (E : E0 p s m c cL_law 9 RL k A) (hX : va_X b L xs s s.heap) (hbl : b < s.heap.size) (hbA : ¬ A b) (hA : ∀ q : Nat, s.heap.size ≤ q → A q) (a_p1 : Nat → Nat) (a_p1in : Nat → Nat) (a_p1ou : Nat → Nat) (a_p1ru : Nat → Nat) (a_p1no : Nat → Nat) (a_p1fo : Nat → Nat) (a_p1rd : Nat → Nat) (a_p1rr : Nat → Nat) (a_p1pa : Nat → Nat) (a_p2 : Nat → Nat) (a_p3 : Nat → Nat) (pp_0 : Nat → Nat → Nat) (sa_0 : Nat → Nat) (v4 : Int32) (p1_0 : OS) (p1in_0 : OS) (p1ou_0 : OS) (p1ru_0 : OS) (p1no_0 : OS) (p1fo_0 : OS) (p1rd_0 : OS) (p1rr_0 : OS) (p1pa_0 : PS) (p2_0 : OS) (p3_0 : Nat → Int64) (so_0 : Option OS) (res : LST) (hf : f_law_5 n L xs v4 (svV sa_0 so_0) p1_0 p1in_0 p1ou_0 p1ru_0 p1no_0 p1fo_0 p1rd_0 p1rr_0 p1pa_0 p2_0 p3_0 so_0 = some res)
    (H : Heap) (locs : List Loc) (ls : Array Slot) (c0 s0 : Nat) (hc0 : c0 + 40 ≤ 601024) (hs0 : s0 + 8000 ≤ 7293034) (hW : WD k A s.heap ((List.flatten [wMCo k a_p1 (a_p1in 0) (a_p1ou 0) (a_p1ru 0) (a_p1no 0) (a_p1fo 0) (a_p1rd 0) (a_p1pa 0) (svV sa_0 so_0) p1_0, wBytes k a_p1in 600 p1in_0, wBytes k a_p1ou 1024 p1ou_0, wRules k a_p1ru p1ru_0, wCourt k a_p1no p1no_0, wCourt k a_p1fo p1fo_0, wReader k a_p1rd (a_p1in 0) (a_p1fo 0) (a_p1rr 0) p1rd_0, wRules k a_p1rr p1rr_0, wPast k a_p1pa pp_0 p1pa_0, wModel k a_p2 p2_0, wJArr k a_p3 1 p3_0] ++ savW k sa_0 so_0) ++ poolW k pp_0 p1pa_0.2) H locs) (hl : lv_has ls 9 [(0, .ref b), (1, .ref (a_p1 0)), (2, .ref (a_p2 0)), (3, .ref (a_p3 0)), (4, .int v4)])
    (hgo : ∀ (pp : Nat → Nat → Nat) (sa : Nat → Nat) (H : Heap) (locs : List Loc) (ls : Array Slot) (cells slots : Nat), cells ≤ c0 + 40 → slots ≤ s0 + 8000 → WD k A s.heap ((List.flatten [wMCo k a_p1 (a_p1in 0) (a_p1ou 0) (a_p1ru 0) (a_p1no 0) (a_p1fo 0) (a_p1rd 0) (a_p1pa 0) (svV sa (res.2.2.2.2.2.2.2.2.2.2.2)) (res.1), wBytes k a_p1in 600 (res.2.1), wBytes k a_p1ou 1024 (res.2.2.1), wRules k a_p1ru (res.2.2.2.1), wCourt k a_p1no (res.2.2.2.2.1), wCourt k a_p1fo (res.2.2.2.2.2.1), wReader k a_p1rd (a_p1in 0) (a_p1fo 0) (a_p1rr 0) (res.2.2.2.2.2.2.1), wRules k a_p1rr (res.2.2.2.2.2.2.2.1), wPast k a_p1pa pp (res.2.2.2.2.2.2.2.2.1), wModel k a_p2 (res.2.2.2.2.2.2.2.2.2.1), wJArr k a_p3 1 (res.2.2.2.2.2.2.2.2.2.2.1)] ++ savW k sa (res.2.2.2.2.2.2.2.2.2.2.2)) ++ poolW k pp (res.2.2.2.2.2.2.2.2.1).2) H locs → lv_has ls 9 [(0, .ref b), (1, .ref (a_p1 0)), (2, .ref (a_p2 0)), (3, .ref (a_p3 0)), (4, .int v4)] → W p l e room_1 s m #[Value.ref b] below meth c H locs cells slots Q (F0 m 2474 ls [])) :
    W p l e room_1 s m #[Value.ref b] below meth c H locs c0 s0 Q (F0 m 381 ls []) := by
  unfold f_law_5 at hf
  refine k_aload_n E hl 1 dL_law_381 rfl ?_
  refine k_aload_n E hl 0 dL_law_382 rfl ?_
  refine k_iload E hl 4 dL_law_383 rfl ?_
  refine lv_iconst (v := (1 : Int32)) E.hx E.hb dL_law_385 ic_1 ?_
  refine lv_iadd E.hx E.hb dL_law_386 ?_
  obtain ⟨hin, hf⟩ := oI hf
  obtain ⟨x_1, ex_1, hf⟩ := oL hf
  refine va_sld E.hx E.hb hX hbl hbA hW.2.2 hin dL_law_387 ?_
  refine k_topi ex_1 ?_
  obtain ⟨r_2, hg, hf⟩ := ob hf
  refine k_callVi (As := [.int x_1]) (rest := []) (ws2 := fun u => (List.flatten [wMCo k a_p1 (a_p1in 0) (a_p1ou 0) (a_p1ru 0) (a_p1no 0) (a_p1fo 0) (a_p1rd 0) (a_p1pa 0) (svV sa_0 so_0) p1_0, wBytes k a_p1in 600 p1in_0, wBytes k a_p1ou 1024 p1ou_0, wRules k a_p1ru p1ru_0, wCourt k a_p1no p1no_0, wCourt k a_p1fo p1fo_0, wReader k a_p1rd (a_p1in 0) (a_p1fo 0) (a_p1rr 0) p1rd_0, wRules k a_p1rr p1rr_0, wPast k a_p1pa pp_0 p1pa_0, wModel k a_p2 p2_0, wJArr k a_p3 1 p3_0] ++ savW k sa_0 so_0) ++ poolW k pp_0 p1pa_0.2) (c_X8_count n l k a_p1 a_p1in a_p1ou a_p1ru a_p1no a_p1fo a_p1rd a_p1pa pp_0 (svV sa_0 so_0) p1_0 p1ru_0 p1no_0 p1pa_0 x_1 r_2 hg) E vl_L_138 dL_law_388 rfl (posOf [1, 2, 2, 3, 12, 12, 1, 3, 2, 13, 1] [0, 3, 4, 8]) 6 0 hW hA hl rfl (law_map (ln := [1, 2, 2, 3, 12, 12, 1, 3, 2, 13, 1]) (is := [0, 3, 4, 8]) (cs := [wMCo k a_p1 (a_p1in 0) (a_p1ou 0) (a_p1ru 0) (a_p1no 0) (a_p1fo 0) (a_p1rd 0) (a_p1pa 0) (svV sa_0 so_0) p1_0, wRules k a_p1ru p1ru_0, wCourt k a_p1no p1no_0, wPast k a_p1pa pp_0 p1pa_0]) (fl4 _ _ _ _) rfl (by decide) rfl) rfl rfl ⟨Nat.le_of_ble_eq_true rfl, Nat.le_of_ble_eq_true rfl⟩ ⟨by show _ ≤ 601024; omega, by show _ ≤ 7293034; omega⟩ (Nat.le_of_ble_eq_true rfl) rfl (fun _ => rfl) (fun u => law_put (ln := [1, 2, 2, 3, 12, 12, 1, 3, 2, 13, 1]) (is := [0, 3, 4, 8]) (cs0 := [wMCo k a_p1 (a_p1in 0) (a_p1ou 0) (a_p1ru 0) (a_p1no 0) (a_p1fo 0) (a_p1rd 0) (a_p1pa 0) (svV sa_0 so_0) p1_0, wRules k a_p1ru p1ru_0, wCourt k a_p1no p1no_0, wPast k a_p1pa pp_0 p1pa_0]) (cs := [wMCo k a_p1 (a_p1in 0) (a_p1ou 0) (a_p1ru 0) (a_p1no 0) (a_p1fo 0) (a_p1rd 0) (a_p1pa 0) (svV sa_0 so_0) p1_0, wRules k a_p1ru p1ru_0, wCourt k a_p1no p1no_0, wPast k a_p1pa pp_0 p1pa_0]) (fl4 _ _ _ _) rfl (by decide) rfl rfl) (fun r u H locs hp hW => ?_)
  cases hp
  have hW : WD k A s.heap ((List.flatten [wMCo k a_p1 (a_p1in 0) (a_p1ou 0) (a_p1ru 0) (a_p1no 0) (a_p1fo 0) (a_p1rd 0) (a_p1pa 0) (svV sa_0 so_0) p1_0, wBytes k a_p1in 600 p1in_0, wBytes k a_p1ou 1024 p1ou_0, wRules k a_p1ru p1ru_0, wCourt k a_p1no p1no_0, wCourt k a_p1fo p1fo_0, wReader k a_p1rd (a_p1in 0) (a_p1fo 0) (a_p1rr 0) p1rd_0, wRules k a_p1rr p1rr_0, wPast k a_p1pa pp_0 p1pa_0, wModel k a_p2 p2_0, wJArr k a_p3 1 p3_0] ++ savW k sa_0 so_0) ++ poolW k pp_0 p1pa_0.2) H locs := hW
  refine k_aload_n E hl 2 dL_law_391 rfl ?_
  refine k_aload_n E hl 0 dL_law_392 rfl ?_
  refine k_iload E hl 4 dL_law_393 rfl ?_
  refine lv_iconst (v := (1 : Int32)) E.hx E.hb dL_law_395 ic_1 ?_
  refine lv_iadd E.hx E.hb dL_law_396 ?_
  obtain ⟨hin, hf⟩ := oI hf
  obtain ⟨x_3, ex_3, hf⟩ := oL hf
  refine va_sld E.hx E.hb hX hbl hbA hW.2.2 hin dL_law_397 ?_
  refine k_topi ex_3 ?_
  obtain ⟨p2_4, r_5, hg, hf⟩ := ob2 hf
  refine k_callVi (As := [.int x_3]) (rest := [.int r_2]) (ws2 := fun u => (List.flatten [wMCo k a_p1 (a_p1in 0) (a_p1ou 0) (a_p1ru 0) (a_p1no 0) (a_p1fo 0) (a_p1rd 0) (a_p1pa 0) (svV sa_0 so_0) p1_0, wBytes k a_p1in 600 p1in_0, wBytes k a_p1ou 1024 p1ou_0, wRules k a_p1ru p1ru_0, wCourt k a_p1no p1no_0, wCourt k a_p1fo p1fo_0, wReader k a_p1rd (a_p1in 0) (a_p1fo 0) (a_p1rr 0) p1rd_0, wRules k a_p1rr p1rr_0, wPast k a_p1pa pp_0 p1pa_0, wModel k a_p2 (u), wJArr k a_p3 1 p3_0] ++ savW k sa_0 so_0) ++ poolW k pp_0 p1pa_0.2) (c_X9_count n l k a_p2 p2_0 x_3 (p2_4, r_5) hg) E vl_L_141 dL_law_398 rfl (posOf [1, 2, 2, 3, 12, 12, 1, 3, 2, 13, 1] [9]) 7 38 hW hA hl rfl (law_map (ln := [1, 2, 2, 3, 12, 12, 1, 3, 2, 13, 1]) (is := [9]) (cs := [wModel k a_p2 p2_0]) (fl1 _) rfl (by decide) rfl) rfl rfl ⟨Nat.le_of_ble_eq_true rfl, Nat.le_of_ble_eq_true rfl⟩ ⟨by show _ ≤ 601024; omega, by show _ ≤ 7293034; omega⟩ (Nat.le_of_ble_eq_true rfl) rfl (fun _ => rfl) (fun u => law_put (ln := [1, 2, 2, 3, 12, 12, 1, 3, 2, 13, 1]) (is := [9]) (cs0 := [wModel k a_p2 p2_0]) (cs := [wModel k a_p2 (u)]) (fl1 _) rfl (by decide) rfl rfl) (fun r u H locs hp hW => ?_)
  cases hp
  have hW : WD k A s.heap ((List.flatten [wMCo k a_p1 (a_p1in 0) (a_p1ou 0) (a_p1ru 0) (a_p1no 0) (a_p1fo 0) (a_p1rd 0) (a_p1pa 0) (svV sa_0 so_0) p1_0, wBytes k a_p1in 600 p1in_0, wBytes k a_p1ou 1024 p1ou_0, wRules k a_p1ru p1ru_0, wCourt k a_p1no p1no_0, wCourt k a_p1fo p1fo_0, wReader k a_p1rd (a_p1in 0) (a_p1fo 0) (a_p1rr 0) p1rd_0, wRules k a_p1rr p1rr_0, wPast k a_p1pa pp_0 p1pa_0, wModel k a_p2 p2_4, wJArr k a_p3 1 p3_0] ++ savW k sa_0 so_0) ++ poolW k pp_0 p1pa_0.2) H locs := hW
  refine lv_icmp_eq (tgt := 2474) E.hx E.hb dL_law_401 (by decide) (fun hc => ?_) (fun hc => ?_)
  · have hf := oT hc hf
    exact hgo pp_0 sa_0 _ _ _ _ _ (by omega) (by omega) (by cases hf; exact hW) (lv_sub hl [0, 1, 2, 3, 4] rfl)
  · have hf := oF hc hf
    refine lv_iconst (v := (0 : Int32)) E.hx E.hb dL_law_404 ic_0 ?_
    exact o0 hf
def f_law_6 (n : Nat) (L : Nat) (xs : Nat → Int32) (v4 : Int32) (sv_0 : Value) (p1_0 : OS) (p1in_0 : OS) (p1ou_0 : OS) (p1ru_0 : OS) (p1no_0 : OS) (p1fo_0 : OS) (p1rd_0 : OS) (p1rr_0 : OS) (p1pa_0 : PS) (p2_0 : OS) (p3_0 : Nat → Int64) (so_0 : Option OS) : Option LST :=
  bnd2 (f_X8_find n sv_0 p1_0 600 p1in_0 p1ru_0) (fun (p1in_1 : OS) (r_2 : Int32) =>
  bnd2 (f_X9_find n p2_0) (fun (p2_3 : OS) (r_4 : Int32) =>
  if r_2 = r_4 then (
  some (p1_0, p1in_1, p1ou_0, p1ru_0, p1no_0, p1fo_0, p1rd_0, p1rr_0, p1pa_0, p2_3, p3_0, so_0)) else (
  none)))
set_option maxHeartbeats 4000000 in
set_option maxRecDepth 100000 in
theorem c_law_6 {p : Program} {l : Launch} {e : Env} {s : State} {m : MethodId} {below : List Frame} {meth : Method} {c : Code} {A : Nat → Prop} {Q : State → Prop} {b L : Nat} {xs : Nat → Int32} {k : KT} (n : Nat) (hE : EH k) (hx : XH l k) (hN : CCH k) (E : E0 p s m c cL_law 9 RL k A) (hX : va_X b L xs s s.heap) (hbl : b < s.heap.size) (hbA : ¬ A b) (hA : ∀ q : Nat, s.heap.size ≤ q → A q) (a_p1 : Nat → Nat) (a_p1in : Nat → Nat) (a_p1ou : Nat → Nat) (a_p1ru : Nat → Nat) (a_p1no : Nat → Nat) (a_p1fo : Nat → Nat) (a_p1rd : Nat → Nat) (a_p1rr : Nat → Nat) (a_p1pa : Nat → Nat) (a_p2 : Nat → Nat) (a_p3 : Nat → Nat) (pp_0 : Nat → Nat → Nat) (sa_0 : Nat → Nat) (v4 : Int32) (p1_0 : OS) (p1in_0 : OS) (p1ou_0 : OS) (p1ru_0 : OS) (p1no_0 : OS) (p1fo_0 : OS) (p1rd_0 : OS) (p1rr_0 : OS) (p1pa_0 : PS) (p2_0 : OS) (p3_0 : Nat → Int64) (so_0 : Option OS) (res : LST) (hf : f_law_6 n L xs v4 (svV sa_0 so_0) p1_0 p1in_0 p1ou_0 p1ru_0 p1no_0 p1fo_0 p1rd_0 p1rr_0 p1pa_0 p2_0 p3_0 so_0 = some res)
    (H : Heap) (locs : List Loc) (ls : Array Slot) (c0 s0 : Nat) (hc0 : c0 + 40 ≤ 601024) (hs0 : s0 + 8000 ≤ 7293034) (hW : WD k A s.heap ((List.flatten [wMCo k a_p1 (a_p1in 0) (a_p1ou 0) (a_p1ru 0) (a_p1no 0) (a_p1fo 0) (a_p1rd 0) (a_p1pa 0) (svV sa_0 so_0) p1_0, wBytes k a_p1in 600 p1in_0, wBytes k a_p1ou 1024 p1ou_0, wRules k a_p1ru p1ru_0, wCourt k a_p1no p1no_0, wCourt k a_p1fo p1fo_0, wReader k a_p1rd (a_p1in 0) (a_p1fo 0) (a_p1rr 0) p1rd_0, wRules k a_p1rr p1rr_0, wPast k a_p1pa pp_0 p1pa_0, wModel k a_p2 p2_0, wJArr k a_p3 1 p3_0] ++ savW k sa_0 so_0) ++ poolW k pp_0 p1pa_0.2) H locs) (hl : lv_has ls 9 [(0, .ref b), (1, .ref (a_p1 0)), (2, .ref (a_p2 0)), (3, .ref (a_p3 0)), (4, .int v4)])
    (hgo : ∀ (pp : Nat → Nat → Nat) (sa : Nat → Nat) (H : Heap) (locs : List Loc) (ls : Array Slot) (cells slots : Nat), cells ≤ c0 + 40 → slots ≤ s0 + 8000 → WD k A s.heap ((List.flatten [wMCo k a_p1 (a_p1in 0) (a_p1ou 0) (a_p1ru 0) (a_p1no 0) (a_p1fo 0) (a_p1rd 0) (a_p1pa 0) (svV sa (res.2.2.2.2.2.2.2.2.2.2.2)) (res.1), wBytes k a_p1in 600 (res.2.1), wBytes k a_p1ou 1024 (res.2.2.1), wRules k a_p1ru (res.2.2.2.1), wCourt k a_p1no (res.2.2.2.2.1), wCourt k a_p1fo (res.2.2.2.2.2.1), wReader k a_p1rd (a_p1in 0) (a_p1fo 0) (a_p1rr 0) (res.2.2.2.2.2.2.1), wRules k a_p1rr (res.2.2.2.2.2.2.2.1), wPast k a_p1pa pp (res.2.2.2.2.2.2.2.2.1), wModel k a_p2 (res.2.2.2.2.2.2.2.2.2.1), wJArr k a_p3 1 (res.2.2.2.2.2.2.2.2.2.2.1)] ++ savW k sa (res.2.2.2.2.2.2.2.2.2.2.2)) ++ poolW k pp (res.2.2.2.2.2.2.2.2.1).2) H locs → lv_has ls 9 [(0, .ref b), (1, .ref (a_p1 0)), (2, .ref (a_p2 0)), (3, .ref (a_p3 0)), (4, .int v4)] → W p l e room_1 s m #[Value.ref b] below meth c H locs cells slots Q (F0 m 2474 ls [])) :
    W p l e room_1 s m #[Value.ref b] below meth c H locs c0 s0 Q (F0 m 406 ls []) := by
  unfold f_law_6 at hf
  refine k_aload_n E hl 1 dL_law_406 rfl ?_
  obtain ⟨p1in_1, r_2, hg, hf⟩ := ob2 hf
  refine k_callVi (As := []) (rest := []) (ws2 := fun u => (List.flatten [wMCo k a_p1 (a_p1in 0) (a_p1ou 0) (a_p1ru 0) (a_p1no 0) (a_p1fo 0) (a_p1rd 0) (a_p1pa 0) (svV sa_0 so_0) p1_0, wBytes k a_p1in 600 (u), wBytes k a_p1ou 1024 p1ou_0, wRules k a_p1ru p1ru_0, wCourt k a_p1no p1no_0, wCourt k a_p1fo p1fo_0, wReader k a_p1rd (a_p1in 0) (a_p1fo 0) (a_p1rr 0) p1rd_0, wRules k a_p1rr p1rr_0, wPast k a_p1pa pp_0 p1pa_0, wModel k a_p2 p2_0, wJArr k a_p3 1 p3_0] ++ savW k sa_0 so_0) ++ poolW k pp_0 p1pa_0.2) (c_X8_find n l k a_p1 a_p1in a_p1ou a_p1ru a_p1no a_p1fo a_p1rd a_p1pa (svV sa_0 so_0) p1_0 600 p1in_0 p1ru_0 (p1in_1, r_2) hg) E vl_L_142 dL_law_407 rfl (posOf [1, 2, 2, 3, 12, 12, 1, 3, 2, 13, 1] [0, 1, 3]) 6 0 hW hA hl rfl (law_map (ln := [1, 2, 2, 3, 12, 12, 1, 3, 2, 13, 1]) (is := [0, 1, 3]) (cs := [wMCo k a_p1 (a_p1in 0) (a_p1ou 0) (a_p1ru 0) (a_p1no 0) (a_p1fo 0) (a_p1rd 0) (a_p1pa 0) (svV sa_0 so_0) p1_0, wBytes k a_p1in 600 p1in_0, wRules k a_p1ru p1ru_0]) (fl3 _ _ _) rfl (by decide) rfl) rfl rfl ⟨Nat.le_of_ble_eq_true rfl, Nat.le_of_ble_eq_true rfl⟩ ⟨by show _ ≤ 601024; omega, by show _ ≤ 7293034; omega⟩ (Nat.le_of_ble_eq_true rfl) rfl (fun _ => rfl) (fun u => law_put (ln := [1, 2, 2, 3, 12, 12, 1, 3, 2, 13, 1]) (is := [0, 1, 3]) (cs0 := [wMCo k a_p1 (a_p1in 0) (a_p1ou 0) (a_p1ru 0) (a_p1no 0) (a_p1fo 0) (a_p1rd 0) (a_p1pa 0) (svV sa_0 so_0) p1_0, wBytes k a_p1in 600 p1in_0, wRules k a_p1ru p1ru_0]) (cs := [wMCo k a_p1 (a_p1in 0) (a_p1ou 0) (a_p1ru 0) (a_p1no 0) (a_p1fo 0) (a_p1rd 0) (a_p1pa 0) (svV sa_0 so_0) p1_0, wBytes k a_p1in 600 (u), wRules k a_p1ru p1ru_0]) (fl3 _ _ _) rfl (by decide) rfl rfl) (fun r u H locs hp hW => ?_)
  cases hp
  have hW : WD k A s.heap ((List.flatten [wMCo k a_p1 (a_p1in 0) (a_p1ou 0) (a_p1ru 0) (a_p1no 0) (a_p1fo 0) (a_p1rd 0) (a_p1pa 0) (svV sa_0 so_0) p1_0, wBytes k a_p1in 600 p1in_1, wBytes k a_p1ou 1024 p1ou_0, wRules k a_p1ru p1ru_0, wCourt k a_p1no p1no_0, wCourt k a_p1fo p1fo_0, wReader k a_p1rd (a_p1in 0) (a_p1fo 0) (a_p1rr 0) p1rd_0, wRules k a_p1rr p1rr_0, wPast k a_p1pa pp_0 p1pa_0, wModel k a_p2 p2_0, wJArr k a_p3 1 p3_0] ++ savW k sa_0 so_0) ++ poolW k pp_0 p1pa_0.2) H locs := hW
  refine k_aload_n E hl 2 dL_law_410 rfl ?_
  obtain ⟨p2_3, r_4, hg, hf⟩ := ob2 hf
  refine k_callVi (As := []) (rest := [.int r_2]) (ws2 := fun u => (List.flatten [wMCo k a_p1 (a_p1in 0) (a_p1ou 0) (a_p1ru 0) (a_p1no 0) (a_p1fo 0) (a_p1rd 0) (a_p1pa 0) (svV sa_0 so_0) p1_0, wBytes k a_p1in 600 p1in_1, wBytes k a_p1ou 1024 p1ou_0, wRules k a_p1ru p1ru_0, wCourt k a_p1no p1no_0, wCourt k a_p1fo p1fo_0, wReader k a_p1rd (a_p1in 0) (a_p1fo 0) (a_p1rr 0) p1rd_0, wRules k a_p1rr p1rr_0, wPast k a_p1pa pp_0 p1pa_0, wModel k a_p2 (u), wJArr k a_p3 1 p3_0] ++ savW k sa_0 so_0) ++ poolW k pp_0 p1pa_0.2) (c_X9_find n l k a_p2 p2_0 (p2_3, r_4) hg) E vl_L_145 dL_law_411 rfl (posOf [1, 2, 2, 3, 12, 12, 1, 3, 2, 13, 1] [9]) 7 38 hW hA hl rfl (law_map (ln := [1, 2, 2, 3, 12, 12, 1, 3, 2, 13, 1]) (is := [9]) (cs := [wModel k a_p2 p2_0]) (fl1 _) rfl (by decide) rfl) rfl rfl ⟨Nat.le_of_ble_eq_true rfl, Nat.le_of_ble_eq_true rfl⟩ ⟨by show _ ≤ 601024; omega, by show _ ≤ 7293034; omega⟩ (Nat.le_of_ble_eq_true rfl) rfl (fun _ => rfl) (fun u => law_put (ln := [1, 2, 2, 3, 12, 12, 1, 3, 2, 13, 1]) (is := [9]) (cs0 := [wModel k a_p2 p2_0]) (cs := [wModel k a_p2 (u)]) (fl1 _) rfl (by decide) rfl rfl) (fun r u H locs hp hW => ?_)
  cases hp
  have hW : WD k A s.heap ((List.flatten [wMCo k a_p1 (a_p1in 0) (a_p1ou 0) (a_p1ru 0) (a_p1no 0) (a_p1fo 0) (a_p1rd 0) (a_p1pa 0) (svV sa_0 so_0) p1_0, wBytes k a_p1in 600 p1in_1, wBytes k a_p1ou 1024 p1ou_0, wRules k a_p1ru p1ru_0, wCourt k a_p1no p1no_0, wCourt k a_p1fo p1fo_0, wReader k a_p1rd (a_p1in 0) (a_p1fo 0) (a_p1rr 0) p1rd_0, wRules k a_p1rr p1rr_0, wPast k a_p1pa pp_0 p1pa_0, wModel k a_p2 p2_3, wJArr k a_p3 1 p3_0] ++ savW k sa_0 so_0) ++ poolW k pp_0 p1pa_0.2) H locs := hW
  refine lv_icmp_eq (tgt := 2474) E.hx E.hb dL_law_414 (by decide) (fun hc => ?_) (fun hc => ?_)
  · have hf := oT hc hf
    exact hgo pp_0 sa_0 _ _ _ _ _ (by omega) (by omega) (by cases hf; exact hW) (lv_sub hl [0, 1, 2, 3, 4] rfl)
  · have hf := oF hc hf
    refine lv_iconst (v := (0 : Int32)) E.hx E.hb dL_law_417 ic_0 ?_
    exact o0 hf
def f_law_7 (n : Nat) (L : Nat) (xs : Nat → Int32) (v4 : Int32) (sv_0 : Value) (p1_0 : OS) (p1in_0 : OS) (p1ou_0 : OS) (p1ru_0 : OS) (p1no_0 : OS) (p1fo_0 : OS) (p1rd_0 : OS) (p1rr_0 : OS) (p1pa_0 : PS) (p2_0 : OS) (p3_0 : Nat → Int64) (so_0 : Option OS) : Option LST :=
  gI L (v4 + (1 : Int32)) (Let (xs (v4 + (1 : Int32)).toNatClampNeg) (fun x_1 : Int32 =>
  gI L (v4 + (2 : Int32)) (Let (xs (v4 + (2 : Int32)).toNatClampNeg) (fun x_2 : Int32 =>
  bnd2 (f_L_process n sv_0 p1_0 p1ru_0 p1no_0 1 p3_0 x_1 x_2) (fun (p3_3 : Nat → Int64) (r_4 : Int32) =>
  gI L (v4 + (1 : Int32)) (Let (xs (v4 + (1 : Int32)).toNatClampNeg) (fun x_5 : Int32 =>
  gI L (v4 + (2 : Int32)) (Let (xs (v4 + (2 : Int32)).toNatClampNeg) (fun x_6 : Int32 =>
  bnd2 (f_X9_process n p2_0 x_5 x_6) (fun (p2_7 : OS) (r_8 : Int32) =>
  bnd (f_X9_thrown n p2_7) (fun (r_9 : Int32) =>
  if r_9 = r_4 then (
  if r_4 = 0 then (
  gI 1 (0 : Int32) (Let (p3_3 (0 : Int32).toNatClampNeg) (fun x_10 : Int64 =>
  if (lg_cmp x_10 ((r_8).toInt64)) = 0 then (
  some (p1_0, p1in_0, p1ou_0, p1ru_0, p1no_0, p1fo_0, p1rd_0, p1rr_0, p1pa_0, p2_7, p3_3, so_0)) else (
  none)))) else (
  some (p1_0, p1in_0, p1ou_0, p1ru_0, p1no_0, p1fo_0, p1rd_0, p1rr_0, p1pa_0, p2_7, p3_3, so_0))) else (
  none))))))))))))
set_option maxHeartbeats 4000000 in
set_option maxRecDepth 100000 in
theorem c_law_7 {p : Program} {l : Launch} {e : Env} {s : State} {m : MethodId} {below : List Frame} {meth : Method} {c : Code} {A : Nat → Prop} {Q : State → Prop} {b L : Nat} {xs : Nat → Int32} {k : KT} (n : Nat) (hE : EH k) (hx : XH l k) (hN : CCH k) (E : E0 p s m c cL_law 9 RL k A) (hX : va_X b L xs s s.heap) (hbl : b < s.heap.size) (hbA : ¬ A b) (hA : ∀ q : Nat, s.heap.size ≤ q → A q) (a_p1 : Nat → Nat) (a_p1in : Nat → Nat) (a_p1ou : Nat → Nat) (a_p1ru : Nat → Nat) (a_p1no : Nat → Nat) (a_p1fo : Nat → Nat) (a_p1rd : Nat → Nat) (a_p1rr : Nat → Nat) (a_p1pa : Nat → Nat) (a_p2 : Nat → Nat) (a_p3 : Nat → Nat) (pp_0 : Nat → Nat → Nat) (sa_0 : Nat → Nat) (v4 : Int32) (p1_0 : OS) (p1in_0 : OS) (p1ou_0 : OS) (p1ru_0 : OS) (p1no_0 : OS) (p1fo_0 : OS) (p1rd_0 : OS) (p1rr_0 : OS) (p1pa_0 : PS) (p2_0 : OS) (p3_0 : Nat → Int64) (so_0 : Option OS) (res : LST) (hf : f_law_7 n L xs v4 (svV sa_0 so_0) p1_0 p1in_0 p1ou_0 p1ru_0 p1no_0 p1fo_0 p1rd_0 p1rr_0 p1pa_0 p2_0 p3_0 so_0 = some res)
    (H : Heap) (locs : List Loc) (ls : Array Slot) (c0 s0 : Nat) (hc0 : c0 + 40 ≤ 601024) (hs0 : s0 + 8000 ≤ 7293034) (hW : WD k A s.heap ((List.flatten [wMCo k a_p1 (a_p1in 0) (a_p1ou 0) (a_p1ru 0) (a_p1no 0) (a_p1fo 0) (a_p1rd 0) (a_p1pa 0) (svV sa_0 so_0) p1_0, wBytes k a_p1in 600 p1in_0, wBytes k a_p1ou 1024 p1ou_0, wRules k a_p1ru p1ru_0, wCourt k a_p1no p1no_0, wCourt k a_p1fo p1fo_0, wReader k a_p1rd (a_p1in 0) (a_p1fo 0) (a_p1rr 0) p1rd_0, wRules k a_p1rr p1rr_0, wPast k a_p1pa pp_0 p1pa_0, wModel k a_p2 p2_0, wJArr k a_p3 1 p3_0] ++ savW k sa_0 so_0) ++ poolW k pp_0 p1pa_0.2) H locs) (hl : lv_has ls 9 [(0, .ref b), (1, .ref (a_p1 0)), (2, .ref (a_p2 0)), (3, .ref (a_p3 0)), (4, .int v4)])
    (hgo : ∀ (pp : Nat → Nat → Nat) (sa : Nat → Nat) (H : Heap) (locs : List Loc) (ls : Array Slot) (cells slots : Nat), cells ≤ c0 + 40 → slots ≤ s0 + 8000 → WD k A s.heap ((List.flatten [wMCo k a_p1 (a_p1in 0) (a_p1ou 0) (a_p1ru 0) (a_p1no 0) (a_p1fo 0) (a_p1rd 0) (a_p1pa 0) (svV sa (res.2.2.2.2.2.2.2.2.2.2.2)) (res.1), wBytes k a_p1in 600 (res.2.1), wBytes k a_p1ou 1024 (res.2.2.1), wRules k a_p1ru (res.2.2.2.1), wCourt k a_p1no (res.2.2.2.2.1), wCourt k a_p1fo (res.2.2.2.2.2.1), wReader k a_p1rd (a_p1in 0) (a_p1fo 0) (a_p1rr 0) (res.2.2.2.2.2.2.1), wRules k a_p1rr (res.2.2.2.2.2.2.2.1), wPast k a_p1pa pp (res.2.2.2.2.2.2.2.2.1), wModel k a_p2 (res.2.2.2.2.2.2.2.2.2.1), wJArr k a_p3 1 (res.2.2.2.2.2.2.2.2.2.2.1)] ++ savW k sa (res.2.2.2.2.2.2.2.2.2.2.2)) ++ poolW k pp (res.2.2.2.2.2.2.2.2.1).2) H locs → lv_has ls 9 [(0, .ref b), (1, .ref (a_p1 0)), (2, .ref (a_p2 0)), (3, .ref (a_p3 0)), (4, .int v4)] → W p l e room_1 s m #[Value.ref b] below meth c H locs cells slots Q (F0 m 2474 ls [])) :
    W p l e room_1 s m #[Value.ref b] below meth c H locs c0 s0 Q (F0 m 419 ls []) := by
  unfold f_law_7 at hf
  refine k_aload_n E hl 1 dL_law_419 rfl ?_
  refine k_aload_n E hl 0 dL_law_420 rfl ?_
  refine k_iload E hl 4 dL_law_421 rfl ?_
  refine lv_iconst (v := (1 : Int32)) E.hx E.hb dL_law_423 ic_1 ?_
  refine lv_iadd E.hx E.hb dL_law_424 ?_
  obtain ⟨hin, hf⟩ := oI hf
  obtain ⟨x_1, ex_1, hf⟩ := oL hf
  refine va_sld E.hx E.hb hX hbl hbA hW.2.2 hin dL_law_425 ?_
  refine k_topi ex_1 ?_
  refine k_aload_n E hl 0 dL_law_426 rfl ?_
  refine k_iload E hl 4 dL_law_427 rfl ?_
  refine lv_iconst (v := (2 : Int32)) E.hx E.hb dL_law_429 ic_2 ?_
  refine lv_iadd E.hx E.hb dL_law_430 ?_
  obtain ⟨hin, hf⟩ := oI hf
  obtain ⟨x_2, ex_2, hf⟩ := oL hf
  refine va_sld E.hx E.hb hX hbl hbA hW.2.2 hin dL_law_431 ?_
  refine k_topi ex_2 ?_
  refine k_aload_n E hl 3 dL_law_432 rfl ?_
  obtain ⟨p3_3, r_4, hg, hf⟩ := ob2 hf
  refine k_callSXi (As := [.ref (a_p1 0), .int x_1, .int x_2, .ref (a_p3 0)]) (rest := []) (ws2 := fun u => (List.flatten [wMCo k a_p1 (a_p1in 0) (a_p1ou 0) (a_p1ru 0) (a_p1no 0) (a_p1fo 0) (a_p1rd 0) (a_p1pa 0) (svV sa_0 so_0) p1_0, wBytes k a_p1in 600 p1in_0, wBytes k a_p1ou 1024 p1ou_0, wRules k a_p1ru p1ru_0, wCourt k a_p1no p1no_0, wCourt k a_p1fo p1fo_0, wReader k a_p1rd (a_p1in 0) (a_p1fo 0) (a_p1rr 0) p1rd_0, wRules k a_p1rr p1rr_0, wPast k a_p1pa pp_0 p1pa_0, wModel k a_p2 p2_0, wJArr k a_p3 1 (u)] ++ savW k sa_0 so_0) ++ poolW k pp_0 p1pa_0.2) (c_L_process n l k hN hx a_p1 a_p1in a_p1ou a_p1ru a_p1no a_p1fo a_p1rd a_p1pa a_p3 (svV sa_0 so_0) p1_0 p1ru_0 p1no_0 1 p3_0 x_1 x_2 (p3_3, r_4) hg) E sw_146 rfl dL_law_433 rfl (posOf [1, 2, 2, 3, 12, 12, 1, 3, 2, 13, 1] [0, 3, 4, 10]) hW hA hl rfl (law_map (ln := [1, 2, 2, 3, 12, 12, 1, 3, 2, 13, 1]) (is := [0, 3, 4, 10]) (cs := [wMCo k a_p1 (a_p1in 0) (a_p1ou 0) (a_p1ru 0) (a_p1no 0) (a_p1fo 0) (a_p1rd 0) (a_p1pa 0) (svV sa_0 so_0) p1_0, wRules k a_p1ru p1ru_0, wCourt k a_p1no p1no_0, wJArr k a_p3 1 p3_0]) (fl4 _ _ _ _) rfl (by decide) rfl) ⟨Nat.le_of_ble_eq_true rfl, Nat.le_of_ble_eq_true rfl⟩ ⟨by show _ ≤ 601024; omega, by show _ ≤ 7293034; omega⟩ (Nat.le_of_ble_eq_true rfl) rfl (fun _ => rfl) (fun u => law_put (ln := [1, 2, 2, 3, 12, 12, 1, 3, 2, 13, 1]) (is := [0, 3, 4, 10]) (cs0 := [wMCo k a_p1 (a_p1in 0) (a_p1ou 0) (a_p1ru 0) (a_p1no 0) (a_p1fo 0) (a_p1rd 0) (a_p1pa 0) (svV sa_0 so_0) p1_0, wRules k a_p1ru p1ru_0, wCourt k a_p1no p1no_0, wJArr k a_p3 1 p3_0]) (cs := [wMCo k a_p1 (a_p1in 0) (a_p1ou 0) (a_p1ru 0) (a_p1no 0) (a_p1fo 0) (a_p1rd 0) (a_p1pa 0) (svV sa_0 so_0) p1_0, wRules k a_p1ru p1ru_0, wCourt k a_p1no p1no_0, wJArr k a_p3 1 (u)]) (fl4 _ _ _ _) rfl (by decide) rfl rfl) (fun r u H locs hp hW => ?_)
  cases hp
  have hW : WD k A s.heap ((List.flatten [wMCo k a_p1 (a_p1in 0) (a_p1ou 0) (a_p1ru 0) (a_p1no 0) (a_p1fo 0) (a_p1rd 0) (a_p1pa 0) (svV sa_0 so_0) p1_0, wBytes k a_p1in 600 p1in_0, wBytes k a_p1ou 1024 p1ou_0, wRules k a_p1ru p1ru_0, wCourt k a_p1no p1no_0, wCourt k a_p1fo p1fo_0, wReader k a_p1rd (a_p1in 0) (a_p1fo 0) (a_p1rr 0) p1rd_0, wRules k a_p1rr p1rr_0, wPast k a_p1pa pp_0 p1pa_0, wModel k a_p2 p2_0, wJArr k a_p3 1 p3_3] ++ savW k sa_0 so_0) ++ poolW k pp_0 p1pa_0.2) H locs := hW
  refine k_istore (lv' := [(5, .int r_4), (0, .ref b), (1, .ref (a_p1 0)), (2, .ref (a_p2 0)), (3, .ref (a_p3 0)), (4, .int v4)]) E rfl hl dL_law_436 (by decide) rfl (fun ls hl => ?_)
  refine k_aload_n E hl 3 dL_law_438 rfl ?_
  refine k_aload_n E hl 1 dL_law_439 rfl ?_
  refine k_iload E hl 5 dL_law_440 rfl ?_
  refine lv_iconst (v := (1 : Int32)) E.hx E.hb dL_law_442 ic_1 ?_
  refine lv_iadd E.hx E.hb dL_law_443 ?_
  obtain ⟨hin, hf⟩ := oI hf
  obtain ⟨x_5, ex_5, hf⟩ := oL hf
  refine va_sld E.hx E.hb hX hbl hbA hW.2.2 hin dL_law_444 ?_
  refine k_topi ex_5 ?_
  refine k_aload_n E hl 1 dL_law_445 rfl ?_
  refine k_iload E hl 5 dL_law_446 rfl ?_
  refine lv_iconst (v := (2 : Int32)) E.hx E.hb dL_law_448 ic_2 ?_
  refine lv_iadd E.hx E.hb dL_law_449 ?_
  obtain ⟨hin, hf⟩ := oI hf
  obtain ⟨x_6, ex_6, hf⟩ := oL hf
  refine va_sld E.hx E.hb hX hbl hbA hW.2.2 hin dL_law_450 ?_
  refine k_topi ex_6 ?_
  obtain ⟨p2_7, r_8, hg, hf⟩ := ob2 hf
  refine k_callVi (As := [.int x_5, .int x_6]) (rest := []) (ws2 := fun u => (List.flatten [wMCo k a_p1 (a_p1in 0) (a_p1ou 0) (a_p1ru 0) (a_p1no 0) (a_p1fo 0) (a_p1rd 0) (a_p1pa 0) (svV sa_0 so_0) p1_0, wBytes k a_p1in 600 p1in_0, wBytes k a_p1ou 1024 p1ou_0, wRules k a_p1ru p1ru_0, wCourt k a_p1no p1no_0, wCourt k a_p1fo p1fo_0, wReader k a_p1rd (a_p1in 0) (a_p1fo 0) (a_p1rr 0) p1rd_0, wRules k a_p1rr p1rr_0, wPast k a_p1pa pp_0 p1pa_0, wModel k a_p2 (u), wJArr k a_p3 1 p3_3] ++ savW k sa_0 so_0) ++ poolW k pp_0 p1pa_0.2) (c_X9_process n l k a_p2 p2_0 x_5 x_6 (p2_7, r_8) hg) E vl_L_151 dL_law_451 rfl (posOf [1, 2, 2, 3, 12, 12, 1, 3, 2, 13, 1] [9]) 7 38 hW hA hl rfl (law_map (ln := [1, 2, 2, 3, 12, 12, 1, 3, 2, 13, 1]) (is := [9]) (cs := [wModel k a_p2 p2_0]) (fl1 _) rfl (by decide) rfl) rfl rfl ⟨Nat.le_of_ble_eq_true rfl, Nat.le_of_ble_eq_true rfl⟩ ⟨by show _ ≤ 601024; omega, by show _ ≤ 7293034; omega⟩ (Nat.le_of_ble_eq_true rfl) rfl (fun _ => rfl) (fun u => law_put (ln := [1, 2, 2, 3, 12, 12, 1, 3, 2, 13, 1]) (is := [9]) (cs0 := [wModel k a_p2 p2_0]) (cs := [wModel k a_p2 (u)]) (fl1 _) rfl (by decide) rfl rfl) (fun r u H locs hp hW => ?_)
  cases hp
  have hW : WD k A s.heap ((List.flatten [wMCo k a_p1 (a_p1in 0) (a_p1ou 0) (a_p1ru 0) (a_p1no 0) (a_p1fo 0) (a_p1rd 0) (a_p1pa 0) (svV sa_0 so_0) p1_0, wBytes k a_p1in 600 p1in_0, wBytes k a_p1ou 1024 p1ou_0, wRules k a_p1ru p1ru_0, wCourt k a_p1no p1no_0, wCourt k a_p1fo p1fo_0, wReader k a_p1rd (a_p1in 0) (a_p1fo 0) (a_p1rr 0) p1rd_0, wRules k a_p1rr p1rr_0, wPast k a_p1pa pp_0 p1pa_0, wModel k a_p2 p2_7, wJArr k a_p3 1 p3_3] ++ savW k sa_0 so_0) ++ poolW k pp_0 p1pa_0.2) H locs := hW
  refine k_istore (lv' := [(6, .int r_8), (5, .int r_4), (0, .ref b), (1, .ref (a_p1 0)), (2, .ref (a_p2 0)), (3, .ref (a_p3 0)), (4, .int v4)]) E rfl hl dL_law_454 (by decide) rfl (fun ls hl => ?_)
  refine k_aload_n E hl 4 dL_law_456 rfl ?_
  obtain ⟨r_9, hg, hf⟩ := ob hf
  refine k_callVi (As := []) (rest := []) (ws2 := fun u => (List.flatten [wMCo k a_p1 (a_p1in 0) (a_p1ou 0) (a_p1ru 0) (a_p1no 0) (a_p1fo 0) (a_p1rd 0) (a_p1pa 0) (svV sa_0 so_0) p1_0, wBytes k a_p1in 600 p1in_0, wBytes k a_p1ou 1024 p1ou_0, wRules k a_p1ru p1ru_0, wCourt k a_p1no p1no_0, wCourt k a_p1fo p1fo_0, wReader k a_p1rd (a_p1in 0) (a_p1fo 0) (a_p1rr 0) p1rd_0, wRules k a_p1rr p1rr_0, wPast k a_p1pa pp_0 p1pa_0, wModel k a_p2 p2_7, wJArr k a_p3 1 p3_3] ++ savW k sa_0 so_0) ++ poolW k pp_0 p1pa_0.2) (c_X9_thrown n l k a_p2 p2_7 r_9 hg) E vl_L_152 dL_law_457 rfl (posOf [1, 2, 2, 3, 12, 12, 1, 3, 2, 13, 1] [9]) 7 38 hW hA hl rfl (law_map (ln := [1, 2, 2, 3, 12, 12, 1, 3, 2, 13, 1]) (is := [9]) (cs := [wModel k a_p2 p2_7]) (fl1 _) rfl (by decide) rfl) rfl rfl ⟨Nat.le_of_ble_eq_true rfl, Nat.le_of_ble_eq_true rfl⟩ ⟨by show _ ≤ 601024; omega, by show _ ≤ 7293034; omega⟩ (Nat.le_of_ble_eq_true rfl) rfl (fun _ => rfl) (fun u => law_put (ln := [1, 2, 2, 3, 12, 12, 1, 3, 2, 13, 1]) (is := [9]) (cs0 := [wModel k a_p2 p2_7]) (cs := [wModel k a_p2 p2_7]) (fl1 _) rfl (by decide) rfl rfl) (fun r u H locs hp hW => ?_)
  cases hp
  have hW : WD k A s.heap ((List.flatten [wMCo k a_p1 (a_p1in 0) (a_p1ou 0) (a_p1ru 0) (a_p1no 0) (a_p1fo 0) (a_p1rd 0) (a_p1pa 0) (svV sa_0 so_0) p1_0, wBytes k a_p1in 600 p1in_0, wBytes k a_p1ou 1024 p1ou_0, wRules k a_p1ru p1ru_0, wCourt k a_p1no p1no_0, wCourt k a_p1fo p1fo_0, wReader k a_p1rd (a_p1in 0) (a_p1fo 0) (a_p1rr 0) p1rd_0, wRules k a_p1rr p1rr_0, wPast k a_p1pa pp_0 p1pa_0, wModel k a_p2 p2_7, wJArr k a_p3 1 p3_3] ++ savW k sa_0 so_0) ++ poolW k pp_0 p1pa_0.2) H locs := hW
  refine k_iload E hl 1 dL_law_460 rfl ?_
  refine lv_icmp_eq (tgt := 467) E.hx E.hb dL_law_462 (by decide) (fun hc => ?_) (fun hc => ?_)
  · have hf := oT hc hf
    refine k_iload E hl 1 dL_law_467 rfl ?_
    refine lv_if_ne (tgt := 484) E.hx E.hb dL_law_469 (by decide) (fun hc => ?_) (fun hc => ?_)
    · have hf := oF hc hf
      refine lv_goto (tgt := 2474) E.hx E.hb dL_law_484 (by decide) ?_
      exact hgo pp_0 sa_0 _ _ _ _ _ (by omega) (by omega) (by cases hf; exact hW) (lv_sub hl [2, 3, 4, 5, 6] rfl)
    · have hf := oT hc hf
      refine k_aload_n E hl 5 dL_law_472 rfl ?_
      refine lv_iconst (v := (0 : Int32)) E.hx E.hb dL_law_473 ic_0 ?_
      obtain ⟨hin, hf⟩ := oI hf
      obtain ⟨x_10, ex_10, hf⟩ := oL hf
      refine k_lald E hW 51 rfl hin dL_law_474 ?_
      refine k_topl ex_10 ?_
      refine k_iload E hl 0 dL_law_475 rfl ?_
      refine lv_i2l (v := (r_8).toInt64) E.hx E.hb dL_law_477 rfl ?_
      refine W.lcmp E.hx E.hb dL_law_478 ?_
      refine lv_if_eq (tgt := 484) E.hx E.hb dL_law_479 (by decide) (fun hc => ?_) (fun hc => ?_)
      · have hf := oT hc hf
        refine lv_goto (tgt := 2474) E.hx E.hb dL_law_484 (by decide) ?_
        exact hgo pp_0 sa_0 _ _ _ _ _ (by omega) (by omega) (by cases hf; exact hW) (lv_sub hl [2, 3, 4, 5, 6] rfl)
      · have hf := oF hc hf
        refine lv_iconst (v := (0 : Int32)) E.hx E.hb dL_law_482 ic_0 ?_
        exact o0 hf
  · have hf := oF hc hf
    refine lv_iconst (v := (0 : Int32)) E.hx E.hb dL_law_465 ic_0 ?_
    exact o0 hf
def f_law_8 (n : Nat) (L : Nat) (xs : Nat → Int32) (v4 : Int32) (sv_0 : Value) (p1_0 : OS) (p1in_0 : OS) (p1ou_0 : OS) (p1ru_0 : OS) (p1no_0 : OS) (p1fo_0 : OS) (p1rd_0 : OS) (p1rr_0 : OS) (p1pa_0 : PS) (p2_0 : OS) (p3_0 : Nat → Int64) (so_0 : Option OS) : Option LST :=
  gI L (v4 + (1 : Int32)) (Let (xs (v4 + (1 : Int32)).toNatClampNeg) (fun x_1 : Int32 =>
  gI L (v4 + (2 : Int32)) (Let (xs (v4 + (2 : Int32)).toNatClampNeg) (fun x_2 : Int32 =>
  bnd2 (f_L_loan n sv_0 p1_0 p1no_0 1 p3_0 x_1 x_2) (fun (p3_3 : Nat → Int64) (r_4 : Int32) =>
  gI L (v4 + (1 : Int32)) (Let (xs (v4 + (1 : Int32)).toNatClampNeg) (fun x_5 : Int32 =>
  gI L (v4 + (2 : Int32)) (Let (xs (v4 + (2 : Int32)).toNatClampNeg) (fun x_6 : Int32 =>
  bnd2 (f_X9_loan n p2_0 x_5 x_6) (fun (p2_7 : OS) (r_8 : Int32) =>
  bnd (f_X9_thrown n p2_7) (fun (r_9 : Int32) =>
  if r_9 = r_4 then (
  if r_4 = 0 then (
  gI 1 (0 : Int32) (Let (p3_3 (0 : Int32).toNatClampNeg) (fun x_10 : Int64 =>
  if (lg_cmp x_10 ((r_8).toInt64)) = 0 then (
  some (p1_0, p1in_0, p1ou_0, p1ru_0, p1no_0, p1fo_0, p1rd_0, p1rr_0, p1pa_0, p2_7, p3_3, so_0)) else (
  none)))) else (
  some (p1_0, p1in_0, p1ou_0, p1ru_0, p1no_0, p1fo_0, p1rd_0, p1rr_0, p1pa_0, p2_7, p3_3, so_0))) else (
  none))))))))))))
set_option maxHeartbeats 4000000 in
set_option maxRecDepth 100000 in
theorem c_law_8 {p : Program} {l : Launch} {e : Env} {s : State} {m : MethodId} {below : List Frame} {meth : Method} {c : Code} {A : Nat → Prop} {Q : State → Prop} {b L : Nat} {xs : Nat → Int32} {k : KT} (n : Nat) (hE : EH k) (hx : XH l k) (hN : CCH k) (E : E0 p s m c cL_law 9 RL k A) (hX : va_X b L xs s s.heap) (hbl : b < s.heap.size) (hbA : ¬ A b) (hA : ∀ q : Nat, s.heap.size ≤ q → A q) (a_p1 : Nat → Nat) (a_p1in : Nat → Nat) (a_p1ou : Nat → Nat) (a_p1ru : Nat → Nat) (a_p1no : Nat → Nat) (a_p1fo : Nat → Nat) (a_p1rd : Nat → Nat) (a_p1rr : Nat → Nat) (a_p1pa : Nat → Nat) (a_p2 : Nat → Nat) (a_p3 : Nat → Nat) (pp_0 : Nat → Nat → Nat) (sa_0 : Nat → Nat) (v4 : Int32) (p1_0 : OS) (p1in_0 : OS) (p1ou_0 : OS) (p1ru_0 : OS) (p1no_0 : OS) (p1fo_0 : OS) (p1rd_0 : OS) (p1rr_0 : OS) (p1pa_0 : PS) (p2_0 : OS) (p3_0 : Nat → Int64) (so_0 : Option OS) (res : LST) (hf : f_law_8 n L xs v4 (svV sa_0 so_0) p1_0 p1in_0 p1ou_0 p1ru_0 p1no_0 p1fo_0 p1rd_0 p1rr_0 p1pa_0 p2_0 p3_0 so_0 = some res)
    (H : Heap) (locs : List Loc) (ls : Array Slot) (c0 s0 : Nat) (hc0 : c0 + 40 ≤ 601024) (hs0 : s0 + 8000 ≤ 7293034) (hW : WD k A s.heap ((List.flatten [wMCo k a_p1 (a_p1in 0) (a_p1ou 0) (a_p1ru 0) (a_p1no 0) (a_p1fo 0) (a_p1rd 0) (a_p1pa 0) (svV sa_0 so_0) p1_0, wBytes k a_p1in 600 p1in_0, wBytes k a_p1ou 1024 p1ou_0, wRules k a_p1ru p1ru_0, wCourt k a_p1no p1no_0, wCourt k a_p1fo p1fo_0, wReader k a_p1rd (a_p1in 0) (a_p1fo 0) (a_p1rr 0) p1rd_0, wRules k a_p1rr p1rr_0, wPast k a_p1pa pp_0 p1pa_0, wModel k a_p2 p2_0, wJArr k a_p3 1 p3_0] ++ savW k sa_0 so_0) ++ poolW k pp_0 p1pa_0.2) H locs) (hl : lv_has ls 9 [(0, .ref b), (1, .ref (a_p1 0)), (2, .ref (a_p2 0)), (3, .ref (a_p3 0)), (4, .int v4)])
    (hgo : ∀ (pp : Nat → Nat → Nat) (sa : Nat → Nat) (H : Heap) (locs : List Loc) (ls : Array Slot) (cells slots : Nat), cells ≤ c0 + 40 → slots ≤ s0 + 8000 → WD k A s.heap ((List.flatten [wMCo k a_p1 (a_p1in 0) (a_p1ou 0) (a_p1ru 0) (a_p1no 0) (a_p1fo 0) (a_p1rd 0) (a_p1pa 0) (svV sa (res.2.2.2.2.2.2.2.2.2.2.2)) (res.1), wBytes k a_p1in 600 (res.2.1), wBytes k a_p1ou 1024 (res.2.2.1), wRules k a_p1ru (res.2.2.2.1), wCourt k a_p1no (res.2.2.2.2.1), wCourt k a_p1fo (res.2.2.2.2.2.1), wReader k a_p1rd (a_p1in 0) (a_p1fo 0) (a_p1rr 0) (res.2.2.2.2.2.2.1), wRules k a_p1rr (res.2.2.2.2.2.2.2.1), wPast k a_p1pa pp (res.2.2.2.2.2.2.2.2.1), wModel k a_p2 (res.2.2.2.2.2.2.2.2.2.1), wJArr k a_p3 1 (res.2.2.2.2.2.2.2.2.2.2.1)] ++ savW k sa (res.2.2.2.2.2.2.2.2.2.2.2)) ++ poolW k pp (res.2.2.2.2.2.2.2.2.1).2) H locs → lv_has ls 9 [(0, .ref b), (1, .ref (a_p1 0)), (2, .ref (a_p2 0)), (3, .ref (a_p3 0)), (4, .int v4)] → W p l e room_1 s m #[Value.ref b] below meth c H locs cells slots Q (F0 m 2474 ls [])) :
    W p l e room_1 s m #[Value.ref b] below meth c H locs c0 s0 Q (F0 m 487 ls []) := by
  unfold f_law_8 at hf
  refine k_aload_n E hl 1 dL_law_487 rfl ?_
  refine k_aload_n E hl 0 dL_law_488 rfl ?_
  refine k_iload E hl 4 dL_law_489 rfl ?_
  refine lv_iconst (v := (1 : Int32)) E.hx E.hb dL_law_491 ic_1 ?_
  refine lv_iadd E.hx E.hb dL_law_492 ?_
  obtain ⟨hin, hf⟩ := oI hf
  obtain ⟨x_1, ex_1, hf⟩ := oL hf
  refine va_sld E.hx E.hb hX hbl hbA hW.2.2 hin dL_law_493 ?_
  refine k_topi ex_1 ?_
  refine k_aload_n E hl 0 dL_law_494 rfl ?_
  refine k_iload E hl 4 dL_law_495 rfl ?_
  refine lv_iconst (v := (2 : Int32)) E.hx E.hb dL_law_497 ic_2 ?_
  refine lv_iadd E.hx E.hb dL_law_498 ?_
  obtain ⟨hin, hf⟩ := oI hf
  obtain ⟨x_2, ex_2, hf⟩ := oL hf
  refine va_sld E.hx E.hb hX hbl hbA hW.2.2 hin dL_law_499 ?_
  refine k_topi ex_2 ?_
  refine k_aload_n E hl 3 dL_law_500 rfl ?_
  obtain ⟨p3_3, r_4, hg, hf⟩ := ob2 hf
  refine k_callSXi (As := [.ref (a_p1 0), .int x_1, .int x_2, .ref (a_p3 0)]) (rest := []) (ws2 := fun u => (List.flatten [wMCo k a_p1 (a_p1in 0) (a_p1ou 0) (a_p1ru 0) (a_p1no 0) (a_p1fo 0) (a_p1rd 0) (a_p1pa 0) (svV sa_0 so_0) p1_0, wBytes k a_p1in 600 p1in_0, wBytes k a_p1ou 1024 p1ou_0, wRules k a_p1ru p1ru_0, wCourt k a_p1no p1no_0, wCourt k a_p1fo p1fo_0, wReader k a_p1rd (a_p1in 0) (a_p1fo 0) (a_p1rr 0) p1rd_0, wRules k a_p1rr p1rr_0, wPast k a_p1pa pp_0 p1pa_0, wModel k a_p2 p2_0, wJArr k a_p3 1 (u)] ++ savW k sa_0 so_0) ++ poolW k pp_0 p1pa_0.2) (c_L_loan n l k hN hx a_p1 a_p1in a_p1ou a_p1ru a_p1no a_p1fo a_p1rd a_p1pa a_p3 (svV sa_0 so_0) p1_0 p1no_0 1 p3_0 x_1 x_2 (p3_3, r_4) hg) E sw_155 rfl dL_law_501 rfl (posOf [1, 2, 2, 3, 12, 12, 1, 3, 2, 13, 1] [0, 4, 10]) hW hA hl rfl (law_map (ln := [1, 2, 2, 3, 12, 12, 1, 3, 2, 13, 1]) (is := [0, 4, 10]) (cs := [wMCo k a_p1 (a_p1in 0) (a_p1ou 0) (a_p1ru 0) (a_p1no 0) (a_p1fo 0) (a_p1rd 0) (a_p1pa 0) (svV sa_0 so_0) p1_0, wCourt k a_p1no p1no_0, wJArr k a_p3 1 p3_0]) (fl3 _ _ _) rfl (by decide) rfl) ⟨Nat.le_of_ble_eq_true rfl, Nat.le_of_ble_eq_true rfl⟩ ⟨by show _ ≤ 601024; omega, by show _ ≤ 7293034; omega⟩ (Nat.le_of_ble_eq_true rfl) rfl (fun _ => rfl) (fun u => law_put (ln := [1, 2, 2, 3, 12, 12, 1, 3, 2, 13, 1]) (is := [0, 4, 10]) (cs0 := [wMCo k a_p1 (a_p1in 0) (a_p1ou 0) (a_p1ru 0) (a_p1no 0) (a_p1fo 0) (a_p1rd 0) (a_p1pa 0) (svV sa_0 so_0) p1_0, wCourt k a_p1no p1no_0, wJArr k a_p3 1 p3_0]) (cs := [wMCo k a_p1 (a_p1in 0) (a_p1ou 0) (a_p1ru 0) (a_p1no 0) (a_p1fo 0) (a_p1rd 0) (a_p1pa 0) (svV sa_0 so_0) p1_0, wCourt k a_p1no p1no_0, wJArr k a_p3 1 (u)]) (fl3 _ _ _) rfl (by decide) rfl rfl) (fun r u H locs hp hW => ?_)
  cases hp
  have hW : WD k A s.heap ((List.flatten [wMCo k a_p1 (a_p1in 0) (a_p1ou 0) (a_p1ru 0) (a_p1no 0) (a_p1fo 0) (a_p1rd 0) (a_p1pa 0) (svV sa_0 so_0) p1_0, wBytes k a_p1in 600 p1in_0, wBytes k a_p1ou 1024 p1ou_0, wRules k a_p1ru p1ru_0, wCourt k a_p1no p1no_0, wCourt k a_p1fo p1fo_0, wReader k a_p1rd (a_p1in 0) (a_p1fo 0) (a_p1rr 0) p1rd_0, wRules k a_p1rr p1rr_0, wPast k a_p1pa pp_0 p1pa_0, wModel k a_p2 p2_0, wJArr k a_p3 1 p3_3] ++ savW k sa_0 so_0) ++ poolW k pp_0 p1pa_0.2) H locs := hW
  refine k_istore (lv' := [(5, .int r_4), (0, .ref b), (1, .ref (a_p1 0)), (2, .ref (a_p2 0)), (3, .ref (a_p3 0)), (4, .int v4)]) E rfl hl dL_law_504 (by decide) rfl (fun ls hl => ?_)
  refine k_aload_n E hl 3 dL_law_506 rfl ?_
  refine k_aload_n E hl 1 dL_law_507 rfl ?_
  refine k_iload E hl 5 dL_law_508 rfl ?_
  refine lv_iconst (v := (1 : Int32)) E.hx E.hb dL_law_510 ic_1 ?_
  refine lv_iadd E.hx E.hb dL_law_511 ?_
  obtain ⟨hin, hf⟩ := oI hf
  obtain ⟨x_5, ex_5, hf⟩ := oL hf
  refine va_sld E.hx E.hb hX hbl hbA hW.2.2 hin dL_law_512 ?_
  refine k_topi ex_5 ?_
  refine k_aload_n E hl 1 dL_law_513 rfl ?_
  refine k_iload E hl 5 dL_law_514 rfl ?_
  refine lv_iconst (v := (2 : Int32)) E.hx E.hb dL_law_516 ic_2 ?_
  refine lv_iadd E.hx E.hb dL_law_517 ?_
  obtain ⟨hin, hf⟩ := oI hf
  obtain ⟨x_6, ex_6, hf⟩ := oL hf
  refine va_sld E.hx E.hb hX hbl hbA hW.2.2 hin dL_law_518 ?_
  refine k_topi ex_6 ?_
  obtain ⟨p2_7, r_8, hg, hf⟩ := ob2 hf
  refine k_callVi (As := [.int x_5, .int x_6]) (rest := []) (ws2 := fun u => (List.flatten [wMCo k a_p1 (a_p1in 0) (a_p1ou 0) (a_p1ru 0) (a_p1no 0) (a_p1fo 0) (a_p1rd 0) (a_p1pa 0) (svV sa_0 so_0) p1_0, wBytes k a_p1in 600 p1in_0, wBytes k a_p1ou 1024 p1ou_0, wRules k a_p1ru p1ru_0, wCourt k a_p1no p1no_0, wCourt k a_p1fo p1fo_0, wReader k a_p1rd (a_p1in 0) (a_p1fo 0) (a_p1rr 0) p1rd_0, wRules k a_p1rr p1rr_0, wPast k a_p1pa pp_0 p1pa_0, wModel k a_p2 (u), wJArr k a_p3 1 p3_3] ++ savW k sa_0 so_0) ++ poolW k pp_0 p1pa_0.2) (c_X9_loan n l k a_p2 p2_0 x_5 x_6 (p2_7, r_8) hg) E vl_L_157 dL_law_519 rfl (posOf [1, 2, 2, 3, 12, 12, 1, 3, 2, 13, 1] [9]) 7 38 hW hA hl rfl (law_map (ln := [1, 2, 2, 3, 12, 12, 1, 3, 2, 13, 1]) (is := [9]) (cs := [wModel k a_p2 p2_0]) (fl1 _) rfl (by decide) rfl) rfl rfl ⟨Nat.le_of_ble_eq_true rfl, Nat.le_of_ble_eq_true rfl⟩ ⟨by show _ ≤ 601024; omega, by show _ ≤ 7293034; omega⟩ (Nat.le_of_ble_eq_true rfl) rfl (fun _ => rfl) (fun u => law_put (ln := [1, 2, 2, 3, 12, 12, 1, 3, 2, 13, 1]) (is := [9]) (cs0 := [wModel k a_p2 p2_0]) (cs := [wModel k a_p2 (u)]) (fl1 _) rfl (by decide) rfl rfl) (fun r u H locs hp hW => ?_)
  cases hp
  have hW : WD k A s.heap ((List.flatten [wMCo k a_p1 (a_p1in 0) (a_p1ou 0) (a_p1ru 0) (a_p1no 0) (a_p1fo 0) (a_p1rd 0) (a_p1pa 0) (svV sa_0 so_0) p1_0, wBytes k a_p1in 600 p1in_0, wBytes k a_p1ou 1024 p1ou_0, wRules k a_p1ru p1ru_0, wCourt k a_p1no p1no_0, wCourt k a_p1fo p1fo_0, wReader k a_p1rd (a_p1in 0) (a_p1fo 0) (a_p1rr 0) p1rd_0, wRules k a_p1rr p1rr_0, wPast k a_p1pa pp_0 p1pa_0, wModel k a_p2 p2_7, wJArr k a_p3 1 p3_3] ++ savW k sa_0 so_0) ++ poolW k pp_0 p1pa_0.2) H locs := hW
  refine k_istore (lv' := [(6, .int r_8), (5, .int r_4), (0, .ref b), (1, .ref (a_p1 0)), (2, .ref (a_p2 0)), (3, .ref (a_p3 0)), (4, .int v4)]) E rfl hl dL_law_522 (by decide) rfl (fun ls hl => ?_)
  refine k_aload_n E hl 4 dL_law_524 rfl ?_
  obtain ⟨r_9, hg, hf⟩ := ob hf
  refine k_callVi (As := []) (rest := []) (ws2 := fun u => (List.flatten [wMCo k a_p1 (a_p1in 0) (a_p1ou 0) (a_p1ru 0) (a_p1no 0) (a_p1fo 0) (a_p1rd 0) (a_p1pa 0) (svV sa_0 so_0) p1_0, wBytes k a_p1in 600 p1in_0, wBytes k a_p1ou 1024 p1ou_0, wRules k a_p1ru p1ru_0, wCourt k a_p1no p1no_0, wCourt k a_p1fo p1fo_0, wReader k a_p1rd (a_p1in 0) (a_p1fo 0) (a_p1rr 0) p1rd_0, wRules k a_p1rr p1rr_0, wPast k a_p1pa pp_0 p1pa_0, wModel k a_p2 p2_7, wJArr k a_p3 1 p3_3] ++ savW k sa_0 so_0) ++ poolW k pp_0 p1pa_0.2) (c_X9_thrown n l k a_p2 p2_7 r_9 hg) E vl_L_152 dL_law_525 rfl (posOf [1, 2, 2, 3, 12, 12, 1, 3, 2, 13, 1] [9]) 7 38 hW hA hl rfl (law_map (ln := [1, 2, 2, 3, 12, 12, 1, 3, 2, 13, 1]) (is := [9]) (cs := [wModel k a_p2 p2_7]) (fl1 _) rfl (by decide) rfl) rfl rfl ⟨Nat.le_of_ble_eq_true rfl, Nat.le_of_ble_eq_true rfl⟩ ⟨by show _ ≤ 601024; omega, by show _ ≤ 7293034; omega⟩ (Nat.le_of_ble_eq_true rfl) rfl (fun _ => rfl) (fun u => law_put (ln := [1, 2, 2, 3, 12, 12, 1, 3, 2, 13, 1]) (is := [9]) (cs0 := [wModel k a_p2 p2_7]) (cs := [wModel k a_p2 p2_7]) (fl1 _) rfl (by decide) rfl rfl) (fun r u H locs hp hW => ?_)
  cases hp
  have hW : WD k A s.heap ((List.flatten [wMCo k a_p1 (a_p1in 0) (a_p1ou 0) (a_p1ru 0) (a_p1no 0) (a_p1fo 0) (a_p1rd 0) (a_p1pa 0) (svV sa_0 so_0) p1_0, wBytes k a_p1in 600 p1in_0, wBytes k a_p1ou 1024 p1ou_0, wRules k a_p1ru p1ru_0, wCourt k a_p1no p1no_0, wCourt k a_p1fo p1fo_0, wReader k a_p1rd (a_p1in 0) (a_p1fo 0) (a_p1rr 0) p1rd_0, wRules k a_p1rr p1rr_0, wPast k a_p1pa pp_0 p1pa_0, wModel k a_p2 p2_7, wJArr k a_p3 1 p3_3] ++ savW k sa_0 so_0) ++ poolW k pp_0 p1pa_0.2) H locs := hW
  refine k_iload E hl 1 dL_law_528 rfl ?_
  refine lv_icmp_eq (tgt := 535) E.hx E.hb dL_law_530 (by decide) (fun hc => ?_) (fun hc => ?_)
  · have hf := oT hc hf
    refine k_iload E hl 1 dL_law_535 rfl ?_
    refine lv_if_ne (tgt := 552) E.hx E.hb dL_law_537 (by decide) (fun hc => ?_) (fun hc => ?_)
    · have hf := oF hc hf
      refine lv_goto (tgt := 2474) E.hx E.hb dL_law_552 (by decide) ?_
      exact hgo pp_0 sa_0 _ _ _ _ _ (by omega) (by omega) (by cases hf; exact hW) (lv_sub hl [2, 3, 4, 5, 6] rfl)
    · have hf := oT hc hf
      refine k_aload_n E hl 5 dL_law_540 rfl ?_
      refine lv_iconst (v := (0 : Int32)) E.hx E.hb dL_law_541 ic_0 ?_
      obtain ⟨hin, hf⟩ := oI hf
      obtain ⟨x_10, ex_10, hf⟩ := oL hf
      refine k_lald E hW 51 rfl hin dL_law_542 ?_
      refine k_topl ex_10 ?_
      refine k_iload E hl 0 dL_law_543 rfl ?_
      refine lv_i2l (v := (r_8).toInt64) E.hx E.hb dL_law_545 rfl ?_
      refine W.lcmp E.hx E.hb dL_law_546 ?_
      refine lv_if_eq (tgt := 552) E.hx E.hb dL_law_547 (by decide) (fun hc => ?_) (fun hc => ?_)
      · have hf := oT hc hf
        refine lv_goto (tgt := 2474) E.hx E.hb dL_law_552 (by decide) ?_
        exact hgo pp_0 sa_0 _ _ _ _ _ (by omega) (by omega) (by cases hf; exact hW) (lv_sub hl [2, 3, 4, 5, 6] rfl)
      · have hf := oF hc hf
        refine lv_iconst (v := (0 : Int32)) E.hx E.hb dL_law_550 ic_0 ?_
        exact o0 hf
  · have hf := oF hc hf
    refine lv_iconst (v := (0 : Int32)) E.hx E.hb dL_law_533 ic_0 ?_
    exact o0 hf
def f_law_9 (n : Nat) (L : Nat) (xs : Nat → Int32) (v4 : Int32) (sv_0 : Value) (p1_0 : OS) (p1in_0 : OS) (p1ou_0 : OS) (p1ru_0 : OS) (p1no_0 : OS) (p1fo_0 : OS) (p1rd_0 : OS) (p1rr_0 : OS) (p1pa_0 : PS) (p2_0 : OS) (p3_0 : Nat → Int64) (so_0 : Option OS) : Option LST :=
  gI L (v4 + (1 : Int32)) (Let (xs (v4 + (1 : Int32)).toNatClampNeg) (fun x_1 : Int32 =>
  bnd2 (f_L_page n sv_0 p1_0 p1ru_0 p1no_0 1 p3_0 x_1) (fun (p3_2 : Nat → Int64) (r_3 : Int32) =>
  gI L (v4 + (1 : Int32)) (Let (xs (v4 + (1 : Int32)).toNatClampNeg) (fun x_4 : Int32 =>
  bnd2 (f_X9_page n p2_0 x_4) (fun (p2_5 : OS) (r_6 : Int32) =>
  bnd (f_X9_thrown n p2_5) (fun (r_7 : Int32) =>
  if r_7 = r_3 then (
  if r_3 = 0 then (
  gI 1 (0 : Int32) (Let (p3_2 (0 : Int32).toNatClampNeg) (fun x_8 : Int64 =>
  if (lg_cmp x_8 ((r_6).toInt64)) = 0 then (
  some (p1_0, p1in_0, p1ou_0, p1ru_0, p1no_0, p1fo_0, p1rd_0, p1rr_0, p1pa_0, p2_5, p3_2, so_0)) else (
  none)))) else (
  some (p1_0, p1in_0, p1ou_0, p1ru_0, p1no_0, p1fo_0, p1rd_0, p1rr_0, p1pa_0, p2_5, p3_2, so_0))) else (
  none))))))))
set_option maxHeartbeats 4000000 in
set_option maxRecDepth 100000 in
theorem c_law_9 {p : Program} {l : Launch} {e : Env} {s : State} {m : MethodId} {below : List Frame} {meth : Method} {c : Code} {A : Nat → Prop} {Q : State → Prop} {b L : Nat} {xs : Nat → Int32} {k : KT} (n : Nat) (hE : EH k) (hx : XH l k) (hN : CCH k) (E : E0 p s m c cL_law 9 RL k A) (hX : va_X b L xs s s.heap) (hbl : b < s.heap.size) (hbA : ¬ A b) (hA : ∀ q : Nat, s.heap.size ≤ q → A q) (a_p1 : Nat → Nat) (a_p1in : Nat → Nat) (a_p1ou : Nat → Nat) (a_p1ru : Nat → Nat) (a_p1no : Nat → Nat) (a_p1fo : Nat → Nat) (a_p1rd : Nat → Nat) (a_p1rr : Nat → Nat) (a_p1pa : Nat → Nat) (a_p2 : Nat → Nat) (a_p3 : Nat → Nat) (pp_0 : Nat → Nat → Nat) (sa_0 : Nat → Nat) (v4 : Int32) (p1_0 : OS) (p1in_0 : OS) (p1ou_0 : OS) (p1ru_0 : OS) (p1no_0 : OS) (p1fo_0 : OS) (p1rd_0 : OS) (p1rr_0 : OS) (p1pa_0 : PS) (p2_0 : OS) (p3_0 : Nat → Int64) (so_0 : Option OS) (res : LST) (hf : f_law_9 n L xs v4 (svV sa_0 so_0) p1_0 p1in_0 p1ou_0 p1ru_0 p1no_0 p1fo_0 p1rd_0 p1rr_0 p1pa_0 p2_0 p3_0 so_0 = some res)
    (H : Heap) (locs : List Loc) (ls : Array Slot) (c0 s0 : Nat) (hc0 : c0 + 40 ≤ 601024) (hs0 : s0 + 8000 ≤ 7293034) (hW : WD k A s.heap ((List.flatten [wMCo k a_p1 (a_p1in 0) (a_p1ou 0) (a_p1ru 0) (a_p1no 0) (a_p1fo 0) (a_p1rd 0) (a_p1pa 0) (svV sa_0 so_0) p1_0, wBytes k a_p1in 600 p1in_0, wBytes k a_p1ou 1024 p1ou_0, wRules k a_p1ru p1ru_0, wCourt k a_p1no p1no_0, wCourt k a_p1fo p1fo_0, wReader k a_p1rd (a_p1in 0) (a_p1fo 0) (a_p1rr 0) p1rd_0, wRules k a_p1rr p1rr_0, wPast k a_p1pa pp_0 p1pa_0, wModel k a_p2 p2_0, wJArr k a_p3 1 p3_0] ++ savW k sa_0 so_0) ++ poolW k pp_0 p1pa_0.2) H locs) (hl : lv_has ls 9 [(0, .ref b), (1, .ref (a_p1 0)), (2, .ref (a_p2 0)), (3, .ref (a_p3 0)), (4, .int v4)])
    (hgo : ∀ (pp : Nat → Nat → Nat) (sa : Nat → Nat) (H : Heap) (locs : List Loc) (ls : Array Slot) (cells slots : Nat), cells ≤ c0 + 40 → slots ≤ s0 + 8000 → WD k A s.heap ((List.flatten [wMCo k a_p1 (a_p1in 0) (a_p1ou 0) (a_p1ru 0) (a_p1no 0) (a_p1fo 0) (a_p1rd 0) (a_p1pa 0) (svV sa (res.2.2.2.2.2.2.2.2.2.2.2)) (res.1), wBytes k a_p1in 600 (res.2.1), wBytes k a_p1ou 1024 (res.2.2.1), wRules k a_p1ru (res.2.2.2.1), wCourt k a_p1no (res.2.2.2.2.1), wCourt k a_p1fo (res.2.2.2.2.2.1), wReader k a_p1rd (a_p1in 0) (a_p1fo 0) (a_p1rr 0) (res.2.2.2.2.2.2.1), wRules k a_p1rr (res.2.2.2.2.2.2.2.1), wPast k a_p1pa pp (res.2.2.2.2.2.2.2.2.1), wModel k a_p2 (res.2.2.2.2.2.2.2.2.2.1), wJArr k a_p3 1 (res.2.2.2.2.2.2.2.2.2.2.1)] ++ savW k sa (res.2.2.2.2.2.2.2.2.2.2.2)) ++ poolW k pp (res.2.2.2.2.2.2.2.2.1).2) H locs → lv_has ls 9 [(0, .ref b), (1, .ref (a_p1 0)), (2, .ref (a_p2 0)), (3, .ref (a_p3 0)), (4, .int v4)] → W p l e room_1 s m #[Value.ref b] below meth c H locs cells slots Q (F0 m 2474 ls [])) :
    W p l e room_1 s m #[Value.ref b] below meth c H locs c0 s0 Q (F0 m 555 ls []) := by
  unfold f_law_9 at hf
  refine k_aload_n E hl 1 dL_law_555 rfl ?_
  refine k_aload_n E hl 0 dL_law_556 rfl ?_
  refine k_iload E hl 4 dL_law_557 rfl ?_
  refine lv_iconst (v := (1 : Int32)) E.hx E.hb dL_law_559 ic_1 ?_
  refine lv_iadd E.hx E.hb dL_law_560 ?_
  obtain ⟨hin, hf⟩ := oI hf
  obtain ⟨x_1, ex_1, hf⟩ := oL hf
  refine va_sld E.hx E.hb hX hbl hbA hW.2.2 hin dL_law_561 ?_
  refine k_topi ex_1 ?_
  refine k_aload_n E hl 3 dL_law_562 rfl ?_
  obtain ⟨p3_2, r_3, hg, hf⟩ := ob2 hf
  refine k_callSXi (As := [.ref (a_p1 0), .int x_1, .ref (a_p3 0)]) (rest := []) (ws2 := fun u => (List.flatten [wMCo k a_p1 (a_p1in 0) (a_p1ou 0) (a_p1ru 0) (a_p1no 0) (a_p1fo 0) (a_p1rd 0) (a_p1pa 0) (svV sa_0 so_0) p1_0, wBytes k a_p1in 600 p1in_0, wBytes k a_p1ou 1024 p1ou_0, wRules k a_p1ru p1ru_0, wCourt k a_p1no p1no_0, wCourt k a_p1fo p1fo_0, wReader k a_p1rd (a_p1in 0) (a_p1fo 0) (a_p1rr 0) p1rd_0, wRules k a_p1rr p1rr_0, wPast k a_p1pa pp_0 p1pa_0, wModel k a_p2 p2_0, wJArr k a_p3 1 (u)] ++ savW k sa_0 so_0) ++ poolW k pp_0 p1pa_0.2) (c_L_page n l k hN hx a_p1 a_p1in a_p1ou a_p1ru a_p1no a_p1fo a_p1rd a_p1pa a_p3 (svV sa_0 so_0) p1_0 p1ru_0 p1no_0 1 p3_0 x_1 (p3_2, r_3) hg) E sw_158 rfl dL_law_563 rfl (posOf [1, 2, 2, 3, 12, 12, 1, 3, 2, 13, 1] [0, 3, 4, 10]) hW hA hl rfl (law_map (ln := [1, 2, 2, 3, 12, 12, 1, 3, 2, 13, 1]) (is := [0, 3, 4, 10]) (cs := [wMCo k a_p1 (a_p1in 0) (a_p1ou 0) (a_p1ru 0) (a_p1no 0) (a_p1fo 0) (a_p1rd 0) (a_p1pa 0) (svV sa_0 so_0) p1_0, wRules k a_p1ru p1ru_0, wCourt k a_p1no p1no_0, wJArr k a_p3 1 p3_0]) (fl4 _ _ _ _) rfl (by decide) rfl) ⟨Nat.le_of_ble_eq_true rfl, Nat.le_of_ble_eq_true rfl⟩ ⟨by show _ ≤ 601024; omega, by show _ ≤ 7293034; omega⟩ (Nat.le_of_ble_eq_true rfl) rfl (fun _ => rfl) (fun u => law_put (ln := [1, 2, 2, 3, 12, 12, 1, 3, 2, 13, 1]) (is := [0, 3, 4, 10]) (cs0 := [wMCo k a_p1 (a_p1in 0) (a_p1ou 0) (a_p1ru 0) (a_p1no 0) (a_p1fo 0) (a_p1rd 0) (a_p1pa 0) (svV sa_0 so_0) p1_0, wRules k a_p1ru p1ru_0, wCourt k a_p1no p1no_0, wJArr k a_p3 1 p3_0]) (cs := [wMCo k a_p1 (a_p1in 0) (a_p1ou 0) (a_p1ru 0) (a_p1no 0) (a_p1fo 0) (a_p1rd 0) (a_p1pa 0) (svV sa_0 so_0) p1_0, wRules k a_p1ru p1ru_0, wCourt k a_p1no p1no_0, wJArr k a_p3 1 (u)]) (fl4 _ _ _ _) rfl (by decide) rfl rfl) (fun r u H locs hp hW => ?_)
  cases hp
  have hW : WD k A s.heap ((List.flatten [wMCo k a_p1 (a_p1in 0) (a_p1ou 0) (a_p1ru 0) (a_p1no 0) (a_p1fo 0) (a_p1rd 0) (a_p1pa 0) (svV sa_0 so_0) p1_0, wBytes k a_p1in 600 p1in_0, wBytes k a_p1ou 1024 p1ou_0, wRules k a_p1ru p1ru_0, wCourt k a_p1no p1no_0, wCourt k a_p1fo p1fo_0, wReader k a_p1rd (a_p1in 0) (a_p1fo 0) (a_p1rr 0) p1rd_0, wRules k a_p1rr p1rr_0, wPast k a_p1pa pp_0 p1pa_0, wModel k a_p2 p2_0, wJArr k a_p3 1 p3_2] ++ savW k sa_0 so_0) ++ poolW k pp_0 p1pa_0.2) H locs := hW
  refine k_istore (lv' := [(5, .int r_3), (0, .ref b), (1, .ref (a_p1 0)), (2, .ref (a_p2 0)), (3, .ref (a_p3 0)), (4, .int v4)]) E rfl hl dL_law_566 (by decide) rfl (fun ls hl => ?_)
  refine k_aload_n E hl 3 dL_law_568 rfl ?_
  refine k_aload_n E hl 1 dL_law_569 rfl ?_
  refine k_iload E hl 5 dL_law_570 rfl ?_
  refine lv_iconst (v := (1 : Int32)) E.hx E.hb dL_law_572 ic_1 ?_
  refine lv_iadd E.hx E.hb dL_law_573 ?_
  obtain ⟨hin, hf⟩ := oI hf
  obtain ⟨x_4, ex_4, hf⟩ := oL hf
  refine va_sld E.hx E.hb hX hbl hbA hW.2.2 hin dL_law_574 ?_
  refine k_topi ex_4 ?_
  obtain ⟨p2_5, r_6, hg, hf⟩ := ob2 hf
  refine k_callVi (As := [.int x_4]) (rest := []) (ws2 := fun u => (List.flatten [wMCo k a_p1 (a_p1in 0) (a_p1ou 0) (a_p1ru 0) (a_p1no 0) (a_p1fo 0) (a_p1rd 0) (a_p1pa 0) (svV sa_0 so_0) p1_0, wBytes k a_p1in 600 p1in_0, wBytes k a_p1ou 1024 p1ou_0, wRules k a_p1ru p1ru_0, wCourt k a_p1no p1no_0, wCourt k a_p1fo p1fo_0, wReader k a_p1rd (a_p1in 0) (a_p1fo 0) (a_p1rr 0) p1rd_0, wRules k a_p1rr p1rr_0, wPast k a_p1pa pp_0 p1pa_0, wModel k a_p2 (u), wJArr k a_p3 1 p3_2] ++ savW k sa_0 so_0) ++ poolW k pp_0 p1pa_0.2) (c_X9_page n l k a_p2 p2_0 x_4 (p2_5, r_6) hg) E vl_L_161 dL_law_575 rfl (posOf [1, 2, 2, 3, 12, 12, 1, 3, 2, 13, 1] [9]) 7 38 hW hA hl rfl (law_map (ln := [1, 2, 2, 3, 12, 12, 1, 3, 2, 13, 1]) (is := [9]) (cs := [wModel k a_p2 p2_0]) (fl1 _) rfl (by decide) rfl) rfl rfl ⟨Nat.le_of_ble_eq_true rfl, Nat.le_of_ble_eq_true rfl⟩ ⟨by show _ ≤ 601024; omega, by show _ ≤ 7293034; omega⟩ (Nat.le_of_ble_eq_true rfl) rfl (fun _ => rfl) (fun u => law_put (ln := [1, 2, 2, 3, 12, 12, 1, 3, 2, 13, 1]) (is := [9]) (cs0 := [wModel k a_p2 p2_0]) (cs := [wModel k a_p2 (u)]) (fl1 _) rfl (by decide) rfl rfl) (fun r u H locs hp hW => ?_)
  cases hp
  have hW : WD k A s.heap ((List.flatten [wMCo k a_p1 (a_p1in 0) (a_p1ou 0) (a_p1ru 0) (a_p1no 0) (a_p1fo 0) (a_p1rd 0) (a_p1pa 0) (svV sa_0 so_0) p1_0, wBytes k a_p1in 600 p1in_0, wBytes k a_p1ou 1024 p1ou_0, wRules k a_p1ru p1ru_0, wCourt k a_p1no p1no_0, wCourt k a_p1fo p1fo_0, wReader k a_p1rd (a_p1in 0) (a_p1fo 0) (a_p1rr 0) p1rd_0, wRules k a_p1rr p1rr_0, wPast k a_p1pa pp_0 p1pa_0, wModel k a_p2 p2_5, wJArr k a_p3 1 p3_2] ++ savW k sa_0 so_0) ++ poolW k pp_0 p1pa_0.2) H locs := hW
  refine k_istore (lv' := [(6, .int r_6), (5, .int r_3), (0, .ref b), (1, .ref (a_p1 0)), (2, .ref (a_p2 0)), (3, .ref (a_p3 0)), (4, .int v4)]) E rfl hl dL_law_578 (by decide) rfl (fun ls hl => ?_)
  refine k_aload_n E hl 4 dL_law_580 rfl ?_
  obtain ⟨r_7, hg, hf⟩ := ob hf
  refine k_callVi (As := []) (rest := []) (ws2 := fun u => (List.flatten [wMCo k a_p1 (a_p1in 0) (a_p1ou 0) (a_p1ru 0) (a_p1no 0) (a_p1fo 0) (a_p1rd 0) (a_p1pa 0) (svV sa_0 so_0) p1_0, wBytes k a_p1in 600 p1in_0, wBytes k a_p1ou 1024 p1ou_0, wRules k a_p1ru p1ru_0, wCourt k a_p1no p1no_0, wCourt k a_p1fo p1fo_0, wReader k a_p1rd (a_p1in 0) (a_p1fo 0) (a_p1rr 0) p1rd_0, wRules k a_p1rr p1rr_0, wPast k a_p1pa pp_0 p1pa_0, wModel k a_p2 p2_5, wJArr k a_p3 1 p3_2] ++ savW k sa_0 so_0) ++ poolW k pp_0 p1pa_0.2) (c_X9_thrown n l k a_p2 p2_5 r_7 hg) E vl_L_152 dL_law_581 rfl (posOf [1, 2, 2, 3, 12, 12, 1, 3, 2, 13, 1] [9]) 7 38 hW hA hl rfl (law_map (ln := [1, 2, 2, 3, 12, 12, 1, 3, 2, 13, 1]) (is := [9]) (cs := [wModel k a_p2 p2_5]) (fl1 _) rfl (by decide) rfl) rfl rfl ⟨Nat.le_of_ble_eq_true rfl, Nat.le_of_ble_eq_true rfl⟩ ⟨by show _ ≤ 601024; omega, by show _ ≤ 7293034; omega⟩ (Nat.le_of_ble_eq_true rfl) rfl (fun _ => rfl) (fun u => law_put (ln := [1, 2, 2, 3, 12, 12, 1, 3, 2, 13, 1]) (is := [9]) (cs0 := [wModel k a_p2 p2_5]) (cs := [wModel k a_p2 p2_5]) (fl1 _) rfl (by decide) rfl rfl) (fun r u H locs hp hW => ?_)
  cases hp
  have hW : WD k A s.heap ((List.flatten [wMCo k a_p1 (a_p1in 0) (a_p1ou 0) (a_p1ru 0) (a_p1no 0) (a_p1fo 0) (a_p1rd 0) (a_p1pa 0) (svV sa_0 so_0) p1_0, wBytes k a_p1in 600 p1in_0, wBytes k a_p1ou 1024 p1ou_0, wRules k a_p1ru p1ru_0, wCourt k a_p1no p1no_0, wCourt k a_p1fo p1fo_0, wReader k a_p1rd (a_p1in 0) (a_p1fo 0) (a_p1rr 0) p1rd_0, wRules k a_p1rr p1rr_0, wPast k a_p1pa pp_0 p1pa_0, wModel k a_p2 p2_5, wJArr k a_p3 1 p3_2] ++ savW k sa_0 so_0) ++ poolW k pp_0 p1pa_0.2) H locs := hW
  refine k_iload E hl 1 dL_law_584 rfl ?_
  refine lv_icmp_eq (tgt := 591) E.hx E.hb dL_law_586 (by decide) (fun hc => ?_) (fun hc => ?_)
  · have hf := oT hc hf
    refine k_iload E hl 1 dL_law_591 rfl ?_
    refine lv_if_ne (tgt := 608) E.hx E.hb dL_law_593 (by decide) (fun hc => ?_) (fun hc => ?_)
    · have hf := oF hc hf
      refine lv_goto (tgt := 2474) E.hx E.hb dL_law_608 (by decide) ?_
      exact hgo pp_0 sa_0 _ _ _ _ _ (by omega) (by omega) (by cases hf; exact hW) (lv_sub hl [2, 3, 4, 5, 6] rfl)
    · have hf := oT hc hf
      refine k_aload_n E hl 5 dL_law_596 rfl ?_
      refine lv_iconst (v := (0 : Int32)) E.hx E.hb dL_law_597 ic_0 ?_
      obtain ⟨hin, hf⟩ := oI hf
      obtain ⟨x_8, ex_8, hf⟩ := oL hf
      refine k_lald E hW 51 rfl hin dL_law_598 ?_
      refine k_topl ex_8 ?_
      refine k_iload E hl 0 dL_law_599 rfl ?_
      refine lv_i2l (v := (r_6).toInt64) E.hx E.hb dL_law_601 rfl ?_
      refine W.lcmp E.hx E.hb dL_law_602 ?_
      refine lv_if_eq (tgt := 608) E.hx E.hb dL_law_603 (by decide) (fun hc => ?_) (fun hc => ?_)
      · have hf := oT hc hf
        refine lv_goto (tgt := 2474) E.hx E.hb dL_law_608 (by decide) ?_
        exact hgo pp_0 sa_0 _ _ _ _ _ (by omega) (by omega) (by cases hf; exact hW) (lv_sub hl [2, 3, 4, 5, 6] rfl)
      · have hf := oF hc hf
        refine lv_iconst (v := (0 : Int32)) E.hx E.hb dL_law_606 ic_0 ?_
        exact o0 hf
  · have hf := oF hc hf
    refine lv_iconst (v := (0 : Int32)) E.hx E.hb dL_law_589 ic_0 ?_
    exact o0 hf
def f_law_10 (n : Nat) (L : Nat) (xs : Nat → Int32) (v4 : Int32) (sv_0 : Value) (p1_0 : OS) (p1in_0 : OS) (p1ou_0 : OS) (p1ru_0 : OS) (p1no_0 : OS) (p1fo_0 : OS) (p1rd_0 : OS) (p1rr_0 : OS) (p1pa_0 : PS) (p2_0 : OS) (p3_0 : Nat → Int64) (so_0 : Option OS) : Option LST :=
  gI L (v4 + (1 : Int32)) (Let (xs (v4 + (1 : Int32)).toNatClampNeg) (fun x_1 : Int32 =>
  gI L (v4 + (2 : Int32)) (Let (xs (v4 + (2 : Int32)).toNatClampNeg) (fun x_2 : Int32 =>
  bnd2 (f_L_pageOf n sv_0 p1_0 p1no_0 1 p3_0 x_1 x_2) (fun (p3_3 : Nat → Int64) (r_4 : Int32) =>
  gI L (v4 + (1 : Int32)) (Let (xs (v4 + (1 : Int32)).toNatClampNeg) (fun x_5 : Int32 =>
  gI L (v4 + (2 : Int32)) (Let (xs (v4 + (2 : Int32)).toNatClampNeg) (fun x_6 : Int32 =>
  bnd2 (f_X9_pageOf n p2_0 x_5 x_6) (fun (p2_7 : OS) (r_8 : Int32) =>
  bnd (f_X9_thrown n p2_7) (fun (r_9 : Int32) =>
  if r_9 = r_4 then (
  if r_4 = 0 then (
  gI 1 (0 : Int32) (Let (p3_3 (0 : Int32).toNatClampNeg) (fun x_10 : Int64 =>
  if (lg_cmp x_10 ((r_8).toInt64)) = 0 then (
  some (p1_0, p1in_0, p1ou_0, p1ru_0, p1no_0, p1fo_0, p1rd_0, p1rr_0, p1pa_0, p2_7, p3_3, so_0)) else (
  none)))) else (
  some (p1_0, p1in_0, p1ou_0, p1ru_0, p1no_0, p1fo_0, p1rd_0, p1rr_0, p1pa_0, p2_7, p3_3, so_0))) else (
  none))))))))))))
set_option maxHeartbeats 4000000 in
set_option maxRecDepth 100000 in
theorem c_law_10 {p : Program} {l : Launch} {e : Env} {s : State} {m : MethodId} {below : List Frame} {meth : Method} {c : Code} {A : Nat → Prop} {Q : State → Prop} {b L : Nat} {xs : Nat → Int32} {k : KT} (n : Nat) (hE : EH k) (hx : XH l k) (hN : CCH k) (E : E0 p s m c cL_law 9 RL k A) (hX : va_X b L xs s s.heap) (hbl : b < s.heap.size) (hbA : ¬ A b) (hA : ∀ q : Nat, s.heap.size ≤ q → A q) (a_p1 : Nat → Nat) (a_p1in : Nat → Nat) (a_p1ou : Nat → Nat) (a_p1ru : Nat → Nat) (a_p1no : Nat → Nat) (a_p1fo : Nat → Nat) (a_p1rd : Nat → Nat) (a_p1rr : Nat → Nat) (a_p1pa : Nat → Nat) (a_p2 : Nat → Nat) (a_p3 : Nat → Nat) (pp_0 : Nat → Nat → Nat) (sa_0 : Nat → Nat) (v4 : Int32) (p1_0 : OS) (p1in_0 : OS) (p1ou_0 : OS) (p1ru_0 : OS) (p1no_0 : OS) (p1fo_0 : OS) (p1rd_0 : OS) (p1rr_0 : OS) (p1pa_0 : PS) (p2_0 : OS) (p3_0 : Nat → Int64) (so_0 : Option OS) (res : LST) (hf : f_law_10 n L xs v4 (svV sa_0 so_0) p1_0 p1in_0 p1ou_0 p1ru_0 p1no_0 p1fo_0 p1rd_0 p1rr_0 p1pa_0 p2_0 p3_0 so_0 = some res)
    (H : Heap) (locs : List Loc) (ls : Array Slot) (c0 s0 : Nat) (hc0 : c0 + 40 ≤ 601024) (hs0 : s0 + 8000 ≤ 7293034) (hW : WD k A s.heap ((List.flatten [wMCo k a_p1 (a_p1in 0) (a_p1ou 0) (a_p1ru 0) (a_p1no 0) (a_p1fo 0) (a_p1rd 0) (a_p1pa 0) (svV sa_0 so_0) p1_0, wBytes k a_p1in 600 p1in_0, wBytes k a_p1ou 1024 p1ou_0, wRules k a_p1ru p1ru_0, wCourt k a_p1no p1no_0, wCourt k a_p1fo p1fo_0, wReader k a_p1rd (a_p1in 0) (a_p1fo 0) (a_p1rr 0) p1rd_0, wRules k a_p1rr p1rr_0, wPast k a_p1pa pp_0 p1pa_0, wModel k a_p2 p2_0, wJArr k a_p3 1 p3_0] ++ savW k sa_0 so_0) ++ poolW k pp_0 p1pa_0.2) H locs) (hl : lv_has ls 9 [(0, .ref b), (1, .ref (a_p1 0)), (2, .ref (a_p2 0)), (3, .ref (a_p3 0)), (4, .int v4)])
    (hgo : ∀ (pp : Nat → Nat → Nat) (sa : Nat → Nat) (H : Heap) (locs : List Loc) (ls : Array Slot) (cells slots : Nat), cells ≤ c0 + 40 → slots ≤ s0 + 8000 → WD k A s.heap ((List.flatten [wMCo k a_p1 (a_p1in 0) (a_p1ou 0) (a_p1ru 0) (a_p1no 0) (a_p1fo 0) (a_p1rd 0) (a_p1pa 0) (svV sa (res.2.2.2.2.2.2.2.2.2.2.2)) (res.1), wBytes k a_p1in 600 (res.2.1), wBytes k a_p1ou 1024 (res.2.2.1), wRules k a_p1ru (res.2.2.2.1), wCourt k a_p1no (res.2.2.2.2.1), wCourt k a_p1fo (res.2.2.2.2.2.1), wReader k a_p1rd (a_p1in 0) (a_p1fo 0) (a_p1rr 0) (res.2.2.2.2.2.2.1), wRules k a_p1rr (res.2.2.2.2.2.2.2.1), wPast k a_p1pa pp (res.2.2.2.2.2.2.2.2.1), wModel k a_p2 (res.2.2.2.2.2.2.2.2.2.1), wJArr k a_p3 1 (res.2.2.2.2.2.2.2.2.2.2.1)] ++ savW k sa (res.2.2.2.2.2.2.2.2.2.2.2)) ++ poolW k pp (res.2.2.2.2.2.2.2.2.1).2) H locs → lv_has ls 9 [(0, .ref b), (1, .ref (a_p1 0)), (2, .ref (a_p2 0)), (3, .ref (a_p3 0)), (4, .int v4)] → W p l e room_1 s m #[Value.ref b] below meth c H locs cells slots Q (F0 m 2474 ls [])) :
    W p l e room_1 s m #[Value.ref b] below meth c H locs c0 s0 Q (F0 m 611 ls []) := by
  unfold f_law_10 at hf
  refine k_aload_n E hl 1 dL_law_611 rfl ?_
  refine k_aload_n E hl 0 dL_law_612 rfl ?_
  refine k_iload E hl 4 dL_law_613 rfl ?_
  refine lv_iconst (v := (1 : Int32)) E.hx E.hb dL_law_615 ic_1 ?_
  refine lv_iadd E.hx E.hb dL_law_616 ?_
  obtain ⟨hin, hf⟩ := oI hf
  obtain ⟨x_1, ex_1, hf⟩ := oL hf
  refine va_sld E.hx E.hb hX hbl hbA hW.2.2 hin dL_law_617 ?_
  refine k_topi ex_1 ?_
  refine k_aload_n E hl 0 dL_law_618 rfl ?_
  refine k_iload E hl 4 dL_law_619 rfl ?_
  refine lv_iconst (v := (2 : Int32)) E.hx E.hb dL_law_621 ic_2 ?_
  refine lv_iadd E.hx E.hb dL_law_622 ?_
  obtain ⟨hin, hf⟩ := oI hf
  obtain ⟨x_2, ex_2, hf⟩ := oL hf
  refine va_sld E.hx E.hb hX hbl hbA hW.2.2 hin dL_law_623 ?_
  refine k_topi ex_2 ?_
  refine k_aload_n E hl 3 dL_law_624 rfl ?_
  obtain ⟨p3_3, r_4, hg, hf⟩ := ob2 hf
  refine k_callSXi (As := [.ref (a_p1 0), .int x_1, .int x_2, .ref (a_p3 0)]) (rest := []) (ws2 := fun u => (List.flatten [wMCo k a_p1 (a_p1in 0) (a_p1ou 0) (a_p1ru 0) (a_p1no 0) (a_p1fo 0) (a_p1rd 0) (a_p1pa 0) (svV sa_0 so_0) p1_0, wBytes k a_p1in 600 p1in_0, wBytes k a_p1ou 1024 p1ou_0, wRules k a_p1ru p1ru_0, wCourt k a_p1no p1no_0, wCourt k a_p1fo p1fo_0, wReader k a_p1rd (a_p1in 0) (a_p1fo 0) (a_p1rr 0) p1rd_0, wRules k a_p1rr p1rr_0, wPast k a_p1pa pp_0 p1pa_0, wModel k a_p2 p2_0, wJArr k a_p3 1 (u)] ++ savW k sa_0 so_0) ++ poolW k pp_0 p1pa_0.2) (c_L_pageOf n l k hN hx a_p1 a_p1in a_p1ou a_p1ru a_p1no a_p1fo a_p1rd a_p1pa a_p3 (svV sa_0 so_0) p1_0 p1no_0 1 p3_0 x_1 x_2 (p3_3, r_4) hg) E sw_162 rfl dL_law_625 rfl (posOf [1, 2, 2, 3, 12, 12, 1, 3, 2, 13, 1] [0, 4, 10]) hW hA hl rfl (law_map (ln := [1, 2, 2, 3, 12, 12, 1, 3, 2, 13, 1]) (is := [0, 4, 10]) (cs := [wMCo k a_p1 (a_p1in 0) (a_p1ou 0) (a_p1ru 0) (a_p1no 0) (a_p1fo 0) (a_p1rd 0) (a_p1pa 0) (svV sa_0 so_0) p1_0, wCourt k a_p1no p1no_0, wJArr k a_p3 1 p3_0]) (fl3 _ _ _) rfl (by decide) rfl) ⟨Nat.le_of_ble_eq_true rfl, Nat.le_of_ble_eq_true rfl⟩ ⟨by show _ ≤ 601024; omega, by show _ ≤ 7293034; omega⟩ (Nat.le_of_ble_eq_true rfl) rfl (fun _ => rfl) (fun u => law_put (ln := [1, 2, 2, 3, 12, 12, 1, 3, 2, 13, 1]) (is := [0, 4, 10]) (cs0 := [wMCo k a_p1 (a_p1in 0) (a_p1ou 0) (a_p1ru 0) (a_p1no 0) (a_p1fo 0) (a_p1rd 0) (a_p1pa 0) (svV sa_0 so_0) p1_0, wCourt k a_p1no p1no_0, wJArr k a_p3 1 p3_0]) (cs := [wMCo k a_p1 (a_p1in 0) (a_p1ou 0) (a_p1ru 0) (a_p1no 0) (a_p1fo 0) (a_p1rd 0) (a_p1pa 0) (svV sa_0 so_0) p1_0, wCourt k a_p1no p1no_0, wJArr k a_p3 1 (u)]) (fl3 _ _ _) rfl (by decide) rfl rfl) (fun r u H locs hp hW => ?_)
  cases hp
  have hW : WD k A s.heap ((List.flatten [wMCo k a_p1 (a_p1in 0) (a_p1ou 0) (a_p1ru 0) (a_p1no 0) (a_p1fo 0) (a_p1rd 0) (a_p1pa 0) (svV sa_0 so_0) p1_0, wBytes k a_p1in 600 p1in_0, wBytes k a_p1ou 1024 p1ou_0, wRules k a_p1ru p1ru_0, wCourt k a_p1no p1no_0, wCourt k a_p1fo p1fo_0, wReader k a_p1rd (a_p1in 0) (a_p1fo 0) (a_p1rr 0) p1rd_0, wRules k a_p1rr p1rr_0, wPast k a_p1pa pp_0 p1pa_0, wModel k a_p2 p2_0, wJArr k a_p3 1 p3_3] ++ savW k sa_0 so_0) ++ poolW k pp_0 p1pa_0.2) H locs := hW
  refine k_istore (lv' := [(5, .int r_4), (0, .ref b), (1, .ref (a_p1 0)), (2, .ref (a_p2 0)), (3, .ref (a_p3 0)), (4, .int v4)]) E rfl hl dL_law_628 (by decide) rfl (fun ls hl => ?_)
  refine k_aload_n E hl 3 dL_law_630 rfl ?_
  refine k_aload_n E hl 1 dL_law_631 rfl ?_
  refine k_iload E hl 5 dL_law_632 rfl ?_
  refine lv_iconst (v := (1 : Int32)) E.hx E.hb dL_law_634 ic_1 ?_
  refine lv_iadd E.hx E.hb dL_law_635 ?_
  obtain ⟨hin, hf⟩ := oI hf
  obtain ⟨x_5, ex_5, hf⟩ := oL hf
  refine va_sld E.hx E.hb hX hbl hbA hW.2.2 hin dL_law_636 ?_
  refine k_topi ex_5 ?_
  refine k_aload_n E hl 1 dL_law_637 rfl ?_
  refine k_iload E hl 5 dL_law_638 rfl ?_
  refine lv_iconst (v := (2 : Int32)) E.hx E.hb dL_law_640 ic_2 ?_
  refine lv_iadd E.hx E.hb dL_law_641 ?_
  obtain ⟨hin, hf⟩ := oI hf
  obtain ⟨x_6, ex_6, hf⟩ := oL hf
  refine va_sld E.hx E.hb hX hbl hbA hW.2.2 hin dL_law_642 ?_
  refine k_topi ex_6 ?_
  obtain ⟨p2_7, r_8, hg, hf⟩ := ob2 hf
  refine k_callVi (As := [.int x_5, .int x_6]) (rest := []) (ws2 := fun u => (List.flatten [wMCo k a_p1 (a_p1in 0) (a_p1ou 0) (a_p1ru 0) (a_p1no 0) (a_p1fo 0) (a_p1rd 0) (a_p1pa 0) (svV sa_0 so_0) p1_0, wBytes k a_p1in 600 p1in_0, wBytes k a_p1ou 1024 p1ou_0, wRules k a_p1ru p1ru_0, wCourt k a_p1no p1no_0, wCourt k a_p1fo p1fo_0, wReader k a_p1rd (a_p1in 0) (a_p1fo 0) (a_p1rr 0) p1rd_0, wRules k a_p1rr p1rr_0, wPast k a_p1pa pp_0 p1pa_0, wModel k a_p2 (u), wJArr k a_p3 1 p3_3] ++ savW k sa_0 so_0) ++ poolW k pp_0 p1pa_0.2) (c_X9_pageOf n l k a_p2 p2_0 x_5 x_6 (p2_7, r_8) hg) E vl_L_164 dL_law_643 rfl (posOf [1, 2, 2, 3, 12, 12, 1, 3, 2, 13, 1] [9]) 7 38 hW hA hl rfl (law_map (ln := [1, 2, 2, 3, 12, 12, 1, 3, 2, 13, 1]) (is := [9]) (cs := [wModel k a_p2 p2_0]) (fl1 _) rfl (by decide) rfl) rfl rfl ⟨Nat.le_of_ble_eq_true rfl, Nat.le_of_ble_eq_true rfl⟩ ⟨by show _ ≤ 601024; omega, by show _ ≤ 7293034; omega⟩ (Nat.le_of_ble_eq_true rfl) rfl (fun _ => rfl) (fun u => law_put (ln := [1, 2, 2, 3, 12, 12, 1, 3, 2, 13, 1]) (is := [9]) (cs0 := [wModel k a_p2 p2_0]) (cs := [wModel k a_p2 (u)]) (fl1 _) rfl (by decide) rfl rfl) (fun r u H locs hp hW => ?_)
  cases hp
  have hW : WD k A s.heap ((List.flatten [wMCo k a_p1 (a_p1in 0) (a_p1ou 0) (a_p1ru 0) (a_p1no 0) (a_p1fo 0) (a_p1rd 0) (a_p1pa 0) (svV sa_0 so_0) p1_0, wBytes k a_p1in 600 p1in_0, wBytes k a_p1ou 1024 p1ou_0, wRules k a_p1ru p1ru_0, wCourt k a_p1no p1no_0, wCourt k a_p1fo p1fo_0, wReader k a_p1rd (a_p1in 0) (a_p1fo 0) (a_p1rr 0) p1rd_0, wRules k a_p1rr p1rr_0, wPast k a_p1pa pp_0 p1pa_0, wModel k a_p2 p2_7, wJArr k a_p3 1 p3_3] ++ savW k sa_0 so_0) ++ poolW k pp_0 p1pa_0.2) H locs := hW
  refine k_istore (lv' := [(6, .int r_8), (5, .int r_4), (0, .ref b), (1, .ref (a_p1 0)), (2, .ref (a_p2 0)), (3, .ref (a_p3 0)), (4, .int v4)]) E rfl hl dL_law_646 (by decide) rfl (fun ls hl => ?_)
  refine k_aload_n E hl 4 dL_law_648 rfl ?_
  obtain ⟨r_9, hg, hf⟩ := ob hf
  refine k_callVi (As := []) (rest := []) (ws2 := fun u => (List.flatten [wMCo k a_p1 (a_p1in 0) (a_p1ou 0) (a_p1ru 0) (a_p1no 0) (a_p1fo 0) (a_p1rd 0) (a_p1pa 0) (svV sa_0 so_0) p1_0, wBytes k a_p1in 600 p1in_0, wBytes k a_p1ou 1024 p1ou_0, wRules k a_p1ru p1ru_0, wCourt k a_p1no p1no_0, wCourt k a_p1fo p1fo_0, wReader k a_p1rd (a_p1in 0) (a_p1fo 0) (a_p1rr 0) p1rd_0, wRules k a_p1rr p1rr_0, wPast k a_p1pa pp_0 p1pa_0, wModel k a_p2 p2_7, wJArr k a_p3 1 p3_3] ++ savW k sa_0 so_0) ++ poolW k pp_0 p1pa_0.2) (c_X9_thrown n l k a_p2 p2_7 r_9 hg) E vl_L_152 dL_law_649 rfl (posOf [1, 2, 2, 3, 12, 12, 1, 3, 2, 13, 1] [9]) 7 38 hW hA hl rfl (law_map (ln := [1, 2, 2, 3, 12, 12, 1, 3, 2, 13, 1]) (is := [9]) (cs := [wModel k a_p2 p2_7]) (fl1 _) rfl (by decide) rfl) rfl rfl ⟨Nat.le_of_ble_eq_true rfl, Nat.le_of_ble_eq_true rfl⟩ ⟨by show _ ≤ 601024; omega, by show _ ≤ 7293034; omega⟩ (Nat.le_of_ble_eq_true rfl) rfl (fun _ => rfl) (fun u => law_put (ln := [1, 2, 2, 3, 12, 12, 1, 3, 2, 13, 1]) (is := [9]) (cs0 := [wModel k a_p2 p2_7]) (cs := [wModel k a_p2 p2_7]) (fl1 _) rfl (by decide) rfl rfl) (fun r u H locs hp hW => ?_)
  cases hp
  have hW : WD k A s.heap ((List.flatten [wMCo k a_p1 (a_p1in 0) (a_p1ou 0) (a_p1ru 0) (a_p1no 0) (a_p1fo 0) (a_p1rd 0) (a_p1pa 0) (svV sa_0 so_0) p1_0, wBytes k a_p1in 600 p1in_0, wBytes k a_p1ou 1024 p1ou_0, wRules k a_p1ru p1ru_0, wCourt k a_p1no p1no_0, wCourt k a_p1fo p1fo_0, wReader k a_p1rd (a_p1in 0) (a_p1fo 0) (a_p1rr 0) p1rd_0, wRules k a_p1rr p1rr_0, wPast k a_p1pa pp_0 p1pa_0, wModel k a_p2 p2_7, wJArr k a_p3 1 p3_3] ++ savW k sa_0 so_0) ++ poolW k pp_0 p1pa_0.2) H locs := hW
  refine k_iload E hl 1 dL_law_652 rfl ?_
  refine lv_icmp_eq (tgt := 659) E.hx E.hb dL_law_654 (by decide) (fun hc => ?_) (fun hc => ?_)
  · have hf := oT hc hf
    refine k_iload E hl 1 dL_law_659 rfl ?_
    refine lv_if_ne (tgt := 676) E.hx E.hb dL_law_661 (by decide) (fun hc => ?_) (fun hc => ?_)
    · have hf := oF hc hf
      refine lv_goto (tgt := 2474) E.hx E.hb dL_law_676 (by decide) ?_
      exact hgo pp_0 sa_0 _ _ _ _ _ (by omega) (by omega) (by cases hf; exact hW) (lv_sub hl [2, 3, 4, 5, 6] rfl)
    · have hf := oT hc hf
      refine k_aload_n E hl 5 dL_law_664 rfl ?_
      refine lv_iconst (v := (0 : Int32)) E.hx E.hb dL_law_665 ic_0 ?_
      obtain ⟨hin, hf⟩ := oI hf
      obtain ⟨x_10, ex_10, hf⟩ := oL hf
      refine k_lald E hW 51 rfl hin dL_law_666 ?_
      refine k_topl ex_10 ?_
      refine k_iload E hl 0 dL_law_667 rfl ?_
      refine lv_i2l (v := (r_8).toInt64) E.hx E.hb dL_law_669 rfl ?_
      refine W.lcmp E.hx E.hb dL_law_670 ?_
      refine lv_if_eq (tgt := 676) E.hx E.hb dL_law_671 (by decide) (fun hc => ?_) (fun hc => ?_)
      · have hf := oT hc hf
        refine lv_goto (tgt := 2474) E.hx E.hb dL_law_676 (by decide) ?_
        exact hgo pp_0 sa_0 _ _ _ _ _ (by omega) (by omega) (by cases hf; exact hW) (lv_sub hl [2, 3, 4, 5, 6] rfl)
      · have hf := oF hc hf
        refine lv_iconst (v := (0 : Int32)) E.hx E.hb dL_law_674 ic_0 ?_
        exact o0 hf
  · have hf := oF hc hf
    refine lv_iconst (v := (0 : Int32)) E.hx E.hb dL_law_657 ic_0 ?_
    exact o0 hf
def f_law_11 (n : Nat) (L : Nat) (xs : Nat → Int32) (v4 : Int32) (sv_0 : Value) (p1_0 : OS) (p1in_0 : OS) (p1ou_0 : OS) (p1ru_0 : OS) (p1no_0 : OS) (p1fo_0 : OS) (p1rd_0 : OS) (p1rr_0 : OS) (p1pa_0 : PS) (p2_0 : OS) (p3_0 : Nat → Int64) (so_0 : Option OS) : Option LST :=
  gI L (v4 + (1 : Int32)) (Let (xs (v4 + (1 : Int32)).toNatClampNeg) (fun x_1 : Int32 =>
  bnd2 (f_L_pieces n sv_0 p1_0 p1no_0 1 p3_0 x_1) (fun (p3_2 : Nat → Int64) (r_3 : Int32) =>
  gI L (v4 + (1 : Int32)) (Let (xs (v4 + (1 : Int32)).toNatClampNeg) (fun x_4 : Int32 =>
  bnd2 (f_X9_pieces n p2_0 x_4) (fun (p2_5 : OS) (r_6 : Int32) =>
  bnd (f_X9_thrown n p2_5) (fun (r_7 : Int32) =>
  if r_7 = r_3 then (
  if r_3 = 0 then (
  gI 1 (0 : Int32) (Let (p3_2 (0 : Int32).toNatClampNeg) (fun x_8 : Int64 =>
  if (lg_cmp x_8 ((r_6).toInt64)) = 0 then (
  some (p1_0, p1in_0, p1ou_0, p1ru_0, p1no_0, p1fo_0, p1rd_0, p1rr_0, p1pa_0, p2_5, p3_2, so_0)) else (
  none)))) else (
  some (p1_0, p1in_0, p1ou_0, p1ru_0, p1no_0, p1fo_0, p1rd_0, p1rr_0, p1pa_0, p2_5, p3_2, so_0))) else (
  none))))))))
set_option maxHeartbeats 4000000 in
set_option maxRecDepth 100000 in
theorem c_law_11 {p : Program} {l : Launch} {e : Env} {s : State} {m : MethodId} {below : List Frame} {meth : Method} {c : Code} {A : Nat → Prop} {Q : State → Prop} {b L : Nat} {xs : Nat → Int32} {k : KT} (n : Nat) (hE : EH k) (hx : XH l k) (hN : CCH k) (E : E0 p s m c cL_law 9 RL k A) (hX : va_X b L xs s s.heap) (hbl : b < s.heap.size) (hbA : ¬ A b) (hA : ∀ q : Nat, s.heap.size ≤ q → A q) (a_p1 : Nat → Nat) (a_p1in : Nat → Nat) (a_p1ou : Nat → Nat) (a_p1ru : Nat → Nat) (a_p1no : Nat → Nat) (a_p1fo : Nat → Nat) (a_p1rd : Nat → Nat) (a_p1rr : Nat → Nat) (a_p1pa : Nat → Nat) (a_p2 : Nat → Nat) (a_p3 : Nat → Nat) (pp_0 : Nat → Nat → Nat) (sa_0 : Nat → Nat) (v4 : Int32) (p1_0 : OS) (p1in_0 : OS) (p1ou_0 : OS) (p1ru_0 : OS) (p1no_0 : OS) (p1fo_0 : OS) (p1rd_0 : OS) (p1rr_0 : OS) (p1pa_0 : PS) (p2_0 : OS) (p3_0 : Nat → Int64) (so_0 : Option OS) (res : LST) (hf : f_law_11 n L xs v4 (svV sa_0 so_0) p1_0 p1in_0 p1ou_0 p1ru_0 p1no_0 p1fo_0 p1rd_0 p1rr_0 p1pa_0 p2_0 p3_0 so_0 = some res)
    (H : Heap) (locs : List Loc) (ls : Array Slot) (c0 s0 : Nat) (hc0 : c0 + 40 ≤ 601024) (hs0 : s0 + 8000 ≤ 7293034) (hW : WD k A s.heap ((List.flatten [wMCo k a_p1 (a_p1in 0) (a_p1ou 0) (a_p1ru 0) (a_p1no 0) (a_p1fo 0) (a_p1rd 0) (a_p1pa 0) (svV sa_0 so_0) p1_0, wBytes k a_p1in 600 p1in_0, wBytes k a_p1ou 1024 p1ou_0, wRules k a_p1ru p1ru_0, wCourt k a_p1no p1no_0, wCourt k a_p1fo p1fo_0, wReader k a_p1rd (a_p1in 0) (a_p1fo 0) (a_p1rr 0) p1rd_0, wRules k a_p1rr p1rr_0, wPast k a_p1pa pp_0 p1pa_0, wModel k a_p2 p2_0, wJArr k a_p3 1 p3_0] ++ savW k sa_0 so_0) ++ poolW k pp_0 p1pa_0.2) H locs) (hl : lv_has ls 9 [(0, .ref b), (1, .ref (a_p1 0)), (2, .ref (a_p2 0)), (3, .ref (a_p3 0)), (4, .int v4)])
    (hgo : ∀ (pp : Nat → Nat → Nat) (sa : Nat → Nat) (H : Heap) (locs : List Loc) (ls : Array Slot) (cells slots : Nat), cells ≤ c0 + 40 → slots ≤ s0 + 8000 → WD k A s.heap ((List.flatten [wMCo k a_p1 (a_p1in 0) (a_p1ou 0) (a_p1ru 0) (a_p1no 0) (a_p1fo 0) (a_p1rd 0) (a_p1pa 0) (svV sa (res.2.2.2.2.2.2.2.2.2.2.2)) (res.1), wBytes k a_p1in 600 (res.2.1), wBytes k a_p1ou 1024 (res.2.2.1), wRules k a_p1ru (res.2.2.2.1), wCourt k a_p1no (res.2.2.2.2.1), wCourt k a_p1fo (res.2.2.2.2.2.1), wReader k a_p1rd (a_p1in 0) (a_p1fo 0) (a_p1rr 0) (res.2.2.2.2.2.2.1), wRules k a_p1rr (res.2.2.2.2.2.2.2.1), wPast k a_p1pa pp (res.2.2.2.2.2.2.2.2.1), wModel k a_p2 (res.2.2.2.2.2.2.2.2.2.1), wJArr k a_p3 1 (res.2.2.2.2.2.2.2.2.2.2.1)] ++ savW k sa (res.2.2.2.2.2.2.2.2.2.2.2)) ++ poolW k pp (res.2.2.2.2.2.2.2.2.1).2) H locs → lv_has ls 9 [(0, .ref b), (1, .ref (a_p1 0)), (2, .ref (a_p2 0)), (3, .ref (a_p3 0)), (4, .int v4)] → W p l e room_1 s m #[Value.ref b] below meth c H locs cells slots Q (F0 m 2474 ls [])) :
    W p l e room_1 s m #[Value.ref b] below meth c H locs c0 s0 Q (F0 m 679 ls []) := by
  unfold f_law_11 at hf
  refine k_aload_n E hl 1 dL_law_679 rfl ?_
  refine k_aload_n E hl 0 dL_law_680 rfl ?_
  refine k_iload E hl 4 dL_law_681 rfl ?_
  refine lv_iconst (v := (1 : Int32)) E.hx E.hb dL_law_683 ic_1 ?_
  refine lv_iadd E.hx E.hb dL_law_684 ?_
  obtain ⟨hin, hf⟩ := oI hf
  obtain ⟨x_1, ex_1, hf⟩ := oL hf
  refine va_sld E.hx E.hb hX hbl hbA hW.2.2 hin dL_law_685 ?_
  refine k_topi ex_1 ?_
  refine k_aload_n E hl 3 dL_law_686 rfl ?_
  obtain ⟨p3_2, r_3, hg, hf⟩ := ob2 hf
  refine k_callSXi (As := [.ref (a_p1 0), .int x_1, .ref (a_p3 0)]) (rest := []) (ws2 := fun u => (List.flatten [wMCo k a_p1 (a_p1in 0) (a_p1ou 0) (a_p1ru 0) (a_p1no 0) (a_p1fo 0) (a_p1rd 0) (a_p1pa 0) (svV sa_0 so_0) p1_0, wBytes k a_p1in 600 p1in_0, wBytes k a_p1ou 1024 p1ou_0, wRules k a_p1ru p1ru_0, wCourt k a_p1no p1no_0, wCourt k a_p1fo p1fo_0, wReader k a_p1rd (a_p1in 0) (a_p1fo 0) (a_p1rr 0) p1rd_0, wRules k a_p1rr p1rr_0, wPast k a_p1pa pp_0 p1pa_0, wModel k a_p2 p2_0, wJArr k a_p3 1 (u)] ++ savW k sa_0 so_0) ++ poolW k pp_0 p1pa_0.2) (c_L_pieces n l k hN hx a_p1 a_p1in a_p1ou a_p1ru a_p1no a_p1fo a_p1rd a_p1pa a_p3 (svV sa_0 so_0) p1_0 p1no_0 1 p3_0 x_1 (p3_2, r_3) hg) E sw_165 rfl dL_law_687 rfl (posOf [1, 2, 2, 3, 12, 12, 1, 3, 2, 13, 1] [0, 4, 10]) hW hA hl rfl (law_map (ln := [1, 2, 2, 3, 12, 12, 1, 3, 2, 13, 1]) (is := [0, 4, 10]) (cs := [wMCo k a_p1 (a_p1in 0) (a_p1ou 0) (a_p1ru 0) (a_p1no 0) (a_p1fo 0) (a_p1rd 0) (a_p1pa 0) (svV sa_0 so_0) p1_0, wCourt k a_p1no p1no_0, wJArr k a_p3 1 p3_0]) (fl3 _ _ _) rfl (by decide) rfl) ⟨Nat.le_of_ble_eq_true rfl, Nat.le_of_ble_eq_true rfl⟩ ⟨by show _ ≤ 601024; omega, by show _ ≤ 7293034; omega⟩ (Nat.le_of_ble_eq_true rfl) rfl (fun _ => rfl) (fun u => law_put (ln := [1, 2, 2, 3, 12, 12, 1, 3, 2, 13, 1]) (is := [0, 4, 10]) (cs0 := [wMCo k a_p1 (a_p1in 0) (a_p1ou 0) (a_p1ru 0) (a_p1no 0) (a_p1fo 0) (a_p1rd 0) (a_p1pa 0) (svV sa_0 so_0) p1_0, wCourt k a_p1no p1no_0, wJArr k a_p3 1 p3_0]) (cs := [wMCo k a_p1 (a_p1in 0) (a_p1ou 0) (a_p1ru 0) (a_p1no 0) (a_p1fo 0) (a_p1rd 0) (a_p1pa 0) (svV sa_0 so_0) p1_0, wCourt k a_p1no p1no_0, wJArr k a_p3 1 (u)]) (fl3 _ _ _) rfl (by decide) rfl rfl) (fun r u H locs hp hW => ?_)
  cases hp
  have hW : WD k A s.heap ((List.flatten [wMCo k a_p1 (a_p1in 0) (a_p1ou 0) (a_p1ru 0) (a_p1no 0) (a_p1fo 0) (a_p1rd 0) (a_p1pa 0) (svV sa_0 so_0) p1_0, wBytes k a_p1in 600 p1in_0, wBytes k a_p1ou 1024 p1ou_0, wRules k a_p1ru p1ru_0, wCourt k a_p1no p1no_0, wCourt k a_p1fo p1fo_0, wReader k a_p1rd (a_p1in 0) (a_p1fo 0) (a_p1rr 0) p1rd_0, wRules k a_p1rr p1rr_0, wPast k a_p1pa pp_0 p1pa_0, wModel k a_p2 p2_0, wJArr k a_p3 1 p3_2] ++ savW k sa_0 so_0) ++ poolW k pp_0 p1pa_0.2) H locs := hW
  refine k_istore (lv' := [(5, .int r_3), (0, .ref b), (1, .ref (a_p1 0)), (2, .ref (a_p2 0)), (3, .ref (a_p3 0)), (4, .int v4)]) E rfl hl dL_law_690 (by decide) rfl (fun ls hl => ?_)
  refine k_aload_n E hl 3 dL_law_692 rfl ?_
  refine k_aload_n E hl 1 dL_law_693 rfl ?_
  refine k_iload E hl 5 dL_law_694 rfl ?_
  refine lv_iconst (v := (1 : Int32)) E.hx E.hb dL_law_696 ic_1 ?_
  refine lv_iadd E.hx E.hb dL_law_697 ?_
  obtain ⟨hin, hf⟩ := oI hf
  obtain ⟨x_4, ex_4, hf⟩ := oL hf
  refine va_sld E.hx E.hb hX hbl hbA hW.2.2 hin dL_law_698 ?_
  refine k_topi ex_4 ?_
  obtain ⟨p2_5, r_6, hg, hf⟩ := ob2 hf
  refine k_callVi (As := [.int x_4]) (rest := []) (ws2 := fun u => (List.flatten [wMCo k a_p1 (a_p1in 0) (a_p1ou 0) (a_p1ru 0) (a_p1no 0) (a_p1fo 0) (a_p1rd 0) (a_p1pa 0) (svV sa_0 so_0) p1_0, wBytes k a_p1in 600 p1in_0, wBytes k a_p1ou 1024 p1ou_0, wRules k a_p1ru p1ru_0, wCourt k a_p1no p1no_0, wCourt k a_p1fo p1fo_0, wReader k a_p1rd (a_p1in 0) (a_p1fo 0) (a_p1rr 0) p1rd_0, wRules k a_p1rr p1rr_0, wPast k a_p1pa pp_0 p1pa_0, wModel k a_p2 (u), wJArr k a_p3 1 p3_2] ++ savW k sa_0 so_0) ++ poolW k pp_0 p1pa_0.2) (c_X9_pieces n l k a_p2 p2_0 x_4 (p2_5, r_6) hg) E vl_L_167 dL_law_699 rfl (posOf [1, 2, 2, 3, 12, 12, 1, 3, 2, 13, 1] [9]) 7 38 hW hA hl rfl (law_map (ln := [1, 2, 2, 3, 12, 12, 1, 3, 2, 13, 1]) (is := [9]) (cs := [wModel k a_p2 p2_0]) (fl1 _) rfl (by decide) rfl) rfl rfl ⟨Nat.le_of_ble_eq_true rfl, Nat.le_of_ble_eq_true rfl⟩ ⟨by show _ ≤ 601024; omega, by show _ ≤ 7293034; omega⟩ (Nat.le_of_ble_eq_true rfl) rfl (fun _ => rfl) (fun u => law_put (ln := [1, 2, 2, 3, 12, 12, 1, 3, 2, 13, 1]) (is := [9]) (cs0 := [wModel k a_p2 p2_0]) (cs := [wModel k a_p2 (u)]) (fl1 _) rfl (by decide) rfl rfl) (fun r u H locs hp hW => ?_)
  cases hp
  have hW : WD k A s.heap ((List.flatten [wMCo k a_p1 (a_p1in 0) (a_p1ou 0) (a_p1ru 0) (a_p1no 0) (a_p1fo 0) (a_p1rd 0) (a_p1pa 0) (svV sa_0 so_0) p1_0, wBytes k a_p1in 600 p1in_0, wBytes k a_p1ou 1024 p1ou_0, wRules k a_p1ru p1ru_0, wCourt k a_p1no p1no_0, wCourt k a_p1fo p1fo_0, wReader k a_p1rd (a_p1in 0) (a_p1fo 0) (a_p1rr 0) p1rd_0, wRules k a_p1rr p1rr_0, wPast k a_p1pa pp_0 p1pa_0, wModel k a_p2 p2_5, wJArr k a_p3 1 p3_2] ++ savW k sa_0 so_0) ++ poolW k pp_0 p1pa_0.2) H locs := hW
  refine k_istore (lv' := [(6, .int r_6), (5, .int r_3), (0, .ref b), (1, .ref (a_p1 0)), (2, .ref (a_p2 0)), (3, .ref (a_p3 0)), (4, .int v4)]) E rfl hl dL_law_702 (by decide) rfl (fun ls hl => ?_)
  refine k_aload_n E hl 4 dL_law_704 rfl ?_
  obtain ⟨r_7, hg, hf⟩ := ob hf
  refine k_callVi (As := []) (rest := []) (ws2 := fun u => (List.flatten [wMCo k a_p1 (a_p1in 0) (a_p1ou 0) (a_p1ru 0) (a_p1no 0) (a_p1fo 0) (a_p1rd 0) (a_p1pa 0) (svV sa_0 so_0) p1_0, wBytes k a_p1in 600 p1in_0, wBytes k a_p1ou 1024 p1ou_0, wRules k a_p1ru p1ru_0, wCourt k a_p1no p1no_0, wCourt k a_p1fo p1fo_0, wReader k a_p1rd (a_p1in 0) (a_p1fo 0) (a_p1rr 0) p1rd_0, wRules k a_p1rr p1rr_0, wPast k a_p1pa pp_0 p1pa_0, wModel k a_p2 p2_5, wJArr k a_p3 1 p3_2] ++ savW k sa_0 so_0) ++ poolW k pp_0 p1pa_0.2) (c_X9_thrown n l k a_p2 p2_5 r_7 hg) E vl_L_152 dL_law_705 rfl (posOf [1, 2, 2, 3, 12, 12, 1, 3, 2, 13, 1] [9]) 7 38 hW hA hl rfl (law_map (ln := [1, 2, 2, 3, 12, 12, 1, 3, 2, 13, 1]) (is := [9]) (cs := [wModel k a_p2 p2_5]) (fl1 _) rfl (by decide) rfl) rfl rfl ⟨Nat.le_of_ble_eq_true rfl, Nat.le_of_ble_eq_true rfl⟩ ⟨by show _ ≤ 601024; omega, by show _ ≤ 7293034; omega⟩ (Nat.le_of_ble_eq_true rfl) rfl (fun _ => rfl) (fun u => law_put (ln := [1, 2, 2, 3, 12, 12, 1, 3, 2, 13, 1]) (is := [9]) (cs0 := [wModel k a_p2 p2_5]) (cs := [wModel k a_p2 p2_5]) (fl1 _) rfl (by decide) rfl rfl) (fun r u H locs hp hW => ?_)
  cases hp
  have hW : WD k A s.heap ((List.flatten [wMCo k a_p1 (a_p1in 0) (a_p1ou 0) (a_p1ru 0) (a_p1no 0) (a_p1fo 0) (a_p1rd 0) (a_p1pa 0) (svV sa_0 so_0) p1_0, wBytes k a_p1in 600 p1in_0, wBytes k a_p1ou 1024 p1ou_0, wRules k a_p1ru p1ru_0, wCourt k a_p1no p1no_0, wCourt k a_p1fo p1fo_0, wReader k a_p1rd (a_p1in 0) (a_p1fo 0) (a_p1rr 0) p1rd_0, wRules k a_p1rr p1rr_0, wPast k a_p1pa pp_0 p1pa_0, wModel k a_p2 p2_5, wJArr k a_p3 1 p3_2] ++ savW k sa_0 so_0) ++ poolW k pp_0 p1pa_0.2) H locs := hW
  refine k_iload E hl 1 dL_law_708 rfl ?_
  refine lv_icmp_eq (tgt := 715) E.hx E.hb dL_law_710 (by decide) (fun hc => ?_) (fun hc => ?_)
  · have hf := oT hc hf
    refine k_iload E hl 1 dL_law_715 rfl ?_
    refine lv_if_ne (tgt := 732) E.hx E.hb dL_law_717 (by decide) (fun hc => ?_) (fun hc => ?_)
    · have hf := oF hc hf
      refine lv_goto (tgt := 2474) E.hx E.hb dL_law_732 (by decide) ?_
      exact hgo pp_0 sa_0 _ _ _ _ _ (by omega) (by omega) (by cases hf; exact hW) (lv_sub hl [2, 3, 4, 5, 6] rfl)
    · have hf := oT hc hf
      refine k_aload_n E hl 5 dL_law_720 rfl ?_
      refine lv_iconst (v := (0 : Int32)) E.hx E.hb dL_law_721 ic_0 ?_
      obtain ⟨hin, hf⟩ := oI hf
      obtain ⟨x_8, ex_8, hf⟩ := oL hf
      refine k_lald E hW 51 rfl hin dL_law_722 ?_
      refine k_topl ex_8 ?_
      refine k_iload E hl 0 dL_law_723 rfl ?_
      refine lv_i2l (v := (r_6).toInt64) E.hx E.hb dL_law_725 rfl ?_
      refine W.lcmp E.hx E.hb dL_law_726 ?_
      refine lv_if_eq (tgt := 732) E.hx E.hb dL_law_727 (by decide) (fun hc => ?_) (fun hc => ?_)
      · have hf := oT hc hf
        refine lv_goto (tgt := 2474) E.hx E.hb dL_law_732 (by decide) ?_
        exact hgo pp_0 sa_0 _ _ _ _ _ (by omega) (by omega) (by cases hf; exact hW) (lv_sub hl [2, 3, 4, 5, 6] rfl)
      · have hf := oF hc hf
        refine lv_iconst (v := (0 : Int32)) E.hx E.hb dL_law_730 ic_0 ?_
        exact o0 hf
  · have hf := oF hc hf
    refine lv_iconst (v := (0 : Int32)) E.hx E.hb dL_law_713 ic_0 ?_
    exact o0 hf
def f_law_12 (n : Nat) (L : Nat) (xs : Nat → Int32) (v4 : Int32) (sv_0 : Value) (p1_0 : OS) (p1in_0 : OS) (p1ou_0 : OS) (p1ru_0 : OS) (p1no_0 : OS) (p1fo_0 : OS) (p1rd_0 : OS) (p1rr_0 : OS) (p1pa_0 : PS) (p2_0 : OS) (p3_0 : Nat → Int64) (so_0 : Option OS) : Option LST :=
  bnd (f_X8_longestFree n sv_0 p1_0 p1no_0) (fun (r_1 : Int32) =>
  bnd2 (f_X9_longestFree n p2_0) (fun (p2_2 : OS) (r_3 : Int32) =>
  if r_1 = r_3 then (
  some (p1_0, p1in_0, p1ou_0, p1ru_0, p1no_0, p1fo_0, p1rd_0, p1rr_0, p1pa_0, p2_2, p3_0, so_0)) else (
  none)))
set_option maxHeartbeats 4000000 in
set_option maxRecDepth 100000 in
theorem c_law_12 {p : Program} {l : Launch} {e : Env} {s : State} {m : MethodId} {below : List Frame} {meth : Method} {c : Code} {A : Nat → Prop} {Q : State → Prop} {b L : Nat} {xs : Nat → Int32} {k : KT} (n : Nat) (hE : EH k) (hx : XH l k) (hN : CCH k) (E : E0 p s m c cL_law 9 RL k A) (hX : va_X b L xs s s.heap) (hbl : b < s.heap.size) (hbA : ¬ A b) (hA : ∀ q : Nat, s.heap.size ≤ q → A q) (a_p1 : Nat → Nat) (a_p1in : Nat → Nat) (a_p1ou : Nat → Nat) (a_p1ru : Nat → Nat) (a_p1no : Nat → Nat) (a_p1fo : Nat → Nat) (a_p1rd : Nat → Nat) (a_p1rr : Nat → Nat) (a_p1pa : Nat → Nat) (a_p2 : Nat → Nat) (a_p3 : Nat → Nat) (pp_0 : Nat → Nat → Nat) (sa_0 : Nat → Nat) (v4 : Int32) (p1_0 : OS) (p1in_0 : OS) (p1ou_0 : OS) (p1ru_0 : OS) (p1no_0 : OS) (p1fo_0 : OS) (p1rd_0 : OS) (p1rr_0 : OS) (p1pa_0 : PS) (p2_0 : OS) (p3_0 : Nat → Int64) (so_0 : Option OS) (res : LST) (hf : f_law_12 n L xs v4 (svV sa_0 so_0) p1_0 p1in_0 p1ou_0 p1ru_0 p1no_0 p1fo_0 p1rd_0 p1rr_0 p1pa_0 p2_0 p3_0 so_0 = some res)
    (H : Heap) (locs : List Loc) (ls : Array Slot) (c0 s0 : Nat) (hc0 : c0 + 40 ≤ 601024) (hs0 : s0 + 8000 ≤ 7293034) (hW : WD k A s.heap ((List.flatten [wMCo k a_p1 (a_p1in 0) (a_p1ou 0) (a_p1ru 0) (a_p1no 0) (a_p1fo 0) (a_p1rd 0) (a_p1pa 0) (svV sa_0 so_0) p1_0, wBytes k a_p1in 600 p1in_0, wBytes k a_p1ou 1024 p1ou_0, wRules k a_p1ru p1ru_0, wCourt k a_p1no p1no_0, wCourt k a_p1fo p1fo_0, wReader k a_p1rd (a_p1in 0) (a_p1fo 0) (a_p1rr 0) p1rd_0, wRules k a_p1rr p1rr_0, wPast k a_p1pa pp_0 p1pa_0, wModel k a_p2 p2_0, wJArr k a_p3 1 p3_0] ++ savW k sa_0 so_0) ++ poolW k pp_0 p1pa_0.2) H locs) (hl : lv_has ls 9 [(0, .ref b), (1, .ref (a_p1 0)), (2, .ref (a_p2 0)), (3, .ref (a_p3 0)), (4, .int v4)])
    (hgo : ∀ (pp : Nat → Nat → Nat) (sa : Nat → Nat) (H : Heap) (locs : List Loc) (ls : Array Slot) (cells slots : Nat), cells ≤ c0 + 40 → slots ≤ s0 + 8000 → WD k A s.heap ((List.flatten [wMCo k a_p1 (a_p1in 0) (a_p1ou 0) (a_p1ru 0) (a_p1no 0) (a_p1fo 0) (a_p1rd 0) (a_p1pa 0) (svV sa (res.2.2.2.2.2.2.2.2.2.2.2)) (res.1), wBytes k a_p1in 600 (res.2.1), wBytes k a_p1ou 1024 (res.2.2.1), wRules k a_p1ru (res.2.2.2.1), wCourt k a_p1no (res.2.2.2.2.1), wCourt k a_p1fo (res.2.2.2.2.2.1), wReader k a_p1rd (a_p1in 0) (a_p1fo 0) (a_p1rr 0) (res.2.2.2.2.2.2.1), wRules k a_p1rr (res.2.2.2.2.2.2.2.1), wPast k a_p1pa pp (res.2.2.2.2.2.2.2.2.1), wModel k a_p2 (res.2.2.2.2.2.2.2.2.2.1), wJArr k a_p3 1 (res.2.2.2.2.2.2.2.2.2.2.1)] ++ savW k sa (res.2.2.2.2.2.2.2.2.2.2.2)) ++ poolW k pp (res.2.2.2.2.2.2.2.2.1).2) H locs → lv_has ls 9 [(0, .ref b), (1, .ref (a_p1 0)), (2, .ref (a_p2 0)), (3, .ref (a_p3 0)), (4, .int v4)] → W p l e room_1 s m #[Value.ref b] below meth c H locs cells slots Q (F0 m 2474 ls [])) :
    W p l e room_1 s m #[Value.ref b] below meth c H locs c0 s0 Q (F0 m 735 ls []) := by
  unfold f_law_12 at hf
  refine k_aload_n E hl 1 dL_law_735 rfl ?_
  obtain ⟨r_1, hg, hf⟩ := ob hf
  refine k_callVi (As := []) (rest := []) (ws2 := fun u => (List.flatten [wMCo k a_p1 (a_p1in 0) (a_p1ou 0) (a_p1ru 0) (a_p1no 0) (a_p1fo 0) (a_p1rd 0) (a_p1pa 0) (svV sa_0 so_0) p1_0, wBytes k a_p1in 600 p1in_0, wBytes k a_p1ou 1024 p1ou_0, wRules k a_p1ru p1ru_0, wCourt k a_p1no p1no_0, wCourt k a_p1fo p1fo_0, wReader k a_p1rd (a_p1in 0) (a_p1fo 0) (a_p1rr 0) p1rd_0, wRules k a_p1rr p1rr_0, wPast k a_p1pa pp_0 p1pa_0, wModel k a_p2 p2_0, wJArr k a_p3 1 p3_0] ++ savW k sa_0 so_0) ++ poolW k pp_0 p1pa_0.2) (c_X8_longestFree n l k a_p1 a_p1in a_p1ou a_p1ru a_p1no a_p1fo a_p1rd a_p1pa (svV sa_0 so_0) p1_0 p1no_0 r_1 hg) E vl_L_168 dL_law_736 rfl (posOf [1, 2, 2, 3, 12, 12, 1, 3, 2, 13, 1] [0, 4]) 6 0 hW hA hl rfl (law_map (ln := [1, 2, 2, 3, 12, 12, 1, 3, 2, 13, 1]) (is := [0, 4]) (cs := [wMCo k a_p1 (a_p1in 0) (a_p1ou 0) (a_p1ru 0) (a_p1no 0) (a_p1fo 0) (a_p1rd 0) (a_p1pa 0) (svV sa_0 so_0) p1_0, wCourt k a_p1no p1no_0]) (fl2 _ _) rfl (by decide) rfl) rfl rfl ⟨Nat.le_of_ble_eq_true rfl, Nat.le_of_ble_eq_true rfl⟩ ⟨by show _ ≤ 601024; omega, by show _ ≤ 7293034; omega⟩ (Nat.le_of_ble_eq_true rfl) rfl (fun _ => rfl) (fun u => law_put (ln := [1, 2, 2, 3, 12, 12, 1, 3, 2, 13, 1]) (is := [0, 4]) (cs0 := [wMCo k a_p1 (a_p1in 0) (a_p1ou 0) (a_p1ru 0) (a_p1no 0) (a_p1fo 0) (a_p1rd 0) (a_p1pa 0) (svV sa_0 so_0) p1_0, wCourt k a_p1no p1no_0]) (cs := [wMCo k a_p1 (a_p1in 0) (a_p1ou 0) (a_p1ru 0) (a_p1no 0) (a_p1fo 0) (a_p1rd 0) (a_p1pa 0) (svV sa_0 so_0) p1_0, wCourt k a_p1no p1no_0]) (fl2 _ _) rfl (by decide) rfl rfl) (fun r u H locs hp hW => ?_)
  cases hp
  have hW : WD k A s.heap ((List.flatten [wMCo k a_p1 (a_p1in 0) (a_p1ou 0) (a_p1ru 0) (a_p1no 0) (a_p1fo 0) (a_p1rd 0) (a_p1pa 0) (svV sa_0 so_0) p1_0, wBytes k a_p1in 600 p1in_0, wBytes k a_p1ou 1024 p1ou_0, wRules k a_p1ru p1ru_0, wCourt k a_p1no p1no_0, wCourt k a_p1fo p1fo_0, wReader k a_p1rd (a_p1in 0) (a_p1fo 0) (a_p1rr 0) p1rd_0, wRules k a_p1rr p1rr_0, wPast k a_p1pa pp_0 p1pa_0, wModel k a_p2 p2_0, wJArr k a_p3 1 p3_0] ++ savW k sa_0 so_0) ++ poolW k pp_0 p1pa_0.2) H locs := hW
  refine k_aload_n E hl 2 dL_law_739 rfl ?_
  obtain ⟨p2_2, r_3, hg, hf⟩ := ob2 hf
  refine k_callVi (As := []) (rest := [.int r_1]) (ws2 := fun u => (List.flatten [wMCo k a_p1 (a_p1in 0) (a_p1ou 0) (a_p1ru 0) (a_p1no 0) (a_p1fo 0) (a_p1rd 0) (a_p1pa 0) (svV sa_0 so_0) p1_0, wBytes k a_p1in 600 p1in_0, wBytes k a_p1ou 1024 p1ou_0, wRules k a_p1ru p1ru_0, wCourt k a_p1no p1no_0, wCourt k a_p1fo p1fo_0, wReader k a_p1rd (a_p1in 0) (a_p1fo 0) (a_p1rr 0) p1rd_0, wRules k a_p1rr p1rr_0, wPast k a_p1pa pp_0 p1pa_0, wModel k a_p2 (u), wJArr k a_p3 1 p3_0] ++ savW k sa_0 so_0) ++ poolW k pp_0 p1pa_0.2) (c_X9_longestFree n l k a_p2 p2_0 (p2_2, r_3) hg) E vl_L_171 dL_law_740 rfl (posOf [1, 2, 2, 3, 12, 12, 1, 3, 2, 13, 1] [9]) 7 38 hW hA hl rfl (law_map (ln := [1, 2, 2, 3, 12, 12, 1, 3, 2, 13, 1]) (is := [9]) (cs := [wModel k a_p2 p2_0]) (fl1 _) rfl (by decide) rfl) rfl rfl ⟨Nat.le_of_ble_eq_true rfl, Nat.le_of_ble_eq_true rfl⟩ ⟨by show _ ≤ 601024; omega, by show _ ≤ 7293034; omega⟩ (Nat.le_of_ble_eq_true rfl) rfl (fun _ => rfl) (fun u => law_put (ln := [1, 2, 2, 3, 12, 12, 1, 3, 2, 13, 1]) (is := [9]) (cs0 := [wModel k a_p2 p2_0]) (cs := [wModel k a_p2 (u)]) (fl1 _) rfl (by decide) rfl rfl) (fun r u H locs hp hW => ?_)
  cases hp
  have hW : WD k A s.heap ((List.flatten [wMCo k a_p1 (a_p1in 0) (a_p1ou 0) (a_p1ru 0) (a_p1no 0) (a_p1fo 0) (a_p1rd 0) (a_p1pa 0) (svV sa_0 so_0) p1_0, wBytes k a_p1in 600 p1in_0, wBytes k a_p1ou 1024 p1ou_0, wRules k a_p1ru p1ru_0, wCourt k a_p1no p1no_0, wCourt k a_p1fo p1fo_0, wReader k a_p1rd (a_p1in 0) (a_p1fo 0) (a_p1rr 0) p1rd_0, wRules k a_p1rr p1rr_0, wPast k a_p1pa pp_0 p1pa_0, wModel k a_p2 p2_2, wJArr k a_p3 1 p3_0] ++ savW k sa_0 so_0) ++ poolW k pp_0 p1pa_0.2) H locs := hW
  refine lv_icmp_eq (tgt := 2474) E.hx E.hb dL_law_743 (by decide) (fun hc => ?_) (fun hc => ?_)
  · have hf := oT hc hf
    exact hgo pp_0 sa_0 _ _ _ _ _ (by omega) (by omega) (by cases hf; exact hW) (lv_sub hl [0, 1, 2, 3, 4] rfl)
  · have hf := oF hc hf
    refine lv_iconst (v := (0 : Int32)) E.hx E.hb dL_law_746 ic_0 ?_
    exact o0 hf
def f_law_13 (n : Nat) (L : Nat) (xs : Nat → Int32) (v4 : Int32) (sv_0 : Value) (p1_0 : OS) (p1in_0 : OS) (p1ou_0 : OS) (p1ru_0 : OS) (p1no_0 : OS) (p1fo_0 : OS) (p1rd_0 : OS) (p1rr_0 : OS) (p1pa_0 : PS) (p2_0 : OS) (p3_0 : Nat → Int64) (so_0 : Option OS) : Option LST :=
  gI L (v4 + (1 : Int32)) (Let (xs (v4 + (1 : Int32)).toNatClampNeg) (fun x_1 : Int32 =>
  gI L (v4 + (2 : Int32)) (Let (xs (v4 + (2 : Int32)).toNatClampNeg) (fun x_2 : Int32 =>
  bnd2 (f_L_claim n sv_0 p1_0 p1no_0 1 p3_0 x_1 x_2) (fun (p3_3 : Nat → Int64) (r_4 : Int32) =>
  gI L (v4 + (1 : Int32)) (Let (xs (v4 + (1 : Int32)).toNatClampNeg) (fun x_5 : Int32 =>
  gI L (v4 + (2 : Int32)) (Let (xs (v4 + (2 : Int32)).toNatClampNeg) (fun x_6 : Int32 =>
  bnd2 (f_X9_claim n p2_0 x_5 x_6) (fun (p2_7 : OS) (r_8 : Int32) =>
  bnd (f_X9_thrown n p2_7) (fun (r_9 : Int32) =>
  if r_9 = r_4 then (
  if r_4 = 0 then (
  gI 1 (0 : Int32) (Let (p3_3 (0 : Int32).toNatClampNeg) (fun x_10 : Int64 =>
  if (lg_cmp x_10 ((r_8).toInt64)) = 0 then (
  some (p1_0, p1in_0, p1ou_0, p1ru_0, p1no_0, p1fo_0, p1rd_0, p1rr_0, p1pa_0, p2_7, p3_3, so_0)) else (
  none)))) else (
  some (p1_0, p1in_0, p1ou_0, p1ru_0, p1no_0, p1fo_0, p1rd_0, p1rr_0, p1pa_0, p2_7, p3_3, so_0))) else (
  none))))))))))))
set_option maxHeartbeats 4000000 in
set_option maxRecDepth 100000 in
theorem c_law_13 {p : Program} {l : Launch} {e : Env} {s : State} {m : MethodId} {below : List Frame} {meth : Method} {c : Code} {A : Nat → Prop} {Q : State → Prop} {b L : Nat} {xs : Nat → Int32} {k : KT} (n : Nat) (hE : EH k) (hx : XH l k) (hN : CCH k) (E : E0 p s m c cL_law 9 RL k A) (hX : va_X b L xs s s.heap) (hbl : b < s.heap.size) (hbA : ¬ A b) (hA : ∀ q : Nat, s.heap.size ≤ q → A q) (a_p1 : Nat → Nat) (a_p1in : Nat → Nat) (a_p1ou : Nat → Nat) (a_p1ru : Nat → Nat) (a_p1no : Nat → Nat) (a_p1fo : Nat → Nat) (a_p1rd : Nat → Nat) (a_p1rr : Nat → Nat) (a_p1pa : Nat → Nat) (a_p2 : Nat → Nat) (a_p3 : Nat → Nat) (pp_0 : Nat → Nat → Nat) (sa_0 : Nat → Nat) (v4 : Int32) (p1_0 : OS) (p1in_0 : OS) (p1ou_0 : OS) (p1ru_0 : OS) (p1no_0 : OS) (p1fo_0 : OS) (p1rd_0 : OS) (p1rr_0 : OS) (p1pa_0 : PS) (p2_0 : OS) (p3_0 : Nat → Int64) (so_0 : Option OS) (res : LST) (hf : f_law_13 n L xs v4 (svV sa_0 so_0) p1_0 p1in_0 p1ou_0 p1ru_0 p1no_0 p1fo_0 p1rd_0 p1rr_0 p1pa_0 p2_0 p3_0 so_0 = some res)
    (H : Heap) (locs : List Loc) (ls : Array Slot) (c0 s0 : Nat) (hc0 : c0 + 40 ≤ 601024) (hs0 : s0 + 8000 ≤ 7293034) (hW : WD k A s.heap ((List.flatten [wMCo k a_p1 (a_p1in 0) (a_p1ou 0) (a_p1ru 0) (a_p1no 0) (a_p1fo 0) (a_p1rd 0) (a_p1pa 0) (svV sa_0 so_0) p1_0, wBytes k a_p1in 600 p1in_0, wBytes k a_p1ou 1024 p1ou_0, wRules k a_p1ru p1ru_0, wCourt k a_p1no p1no_0, wCourt k a_p1fo p1fo_0, wReader k a_p1rd (a_p1in 0) (a_p1fo 0) (a_p1rr 0) p1rd_0, wRules k a_p1rr p1rr_0, wPast k a_p1pa pp_0 p1pa_0, wModel k a_p2 p2_0, wJArr k a_p3 1 p3_0] ++ savW k sa_0 so_0) ++ poolW k pp_0 p1pa_0.2) H locs) (hl : lv_has ls 9 [(0, .ref b), (1, .ref (a_p1 0)), (2, .ref (a_p2 0)), (3, .ref (a_p3 0)), (4, .int v4)])
    (hgo : ∀ (pp : Nat → Nat → Nat) (sa : Nat → Nat) (H : Heap) (locs : List Loc) (ls : Array Slot) (cells slots : Nat), cells ≤ c0 + 40 → slots ≤ s0 + 8000 → WD k A s.heap ((List.flatten [wMCo k a_p1 (a_p1in 0) (a_p1ou 0) (a_p1ru 0) (a_p1no 0) (a_p1fo 0) (a_p1rd 0) (a_p1pa 0) (svV sa (res.2.2.2.2.2.2.2.2.2.2.2)) (res.1), wBytes k a_p1in 600 (res.2.1), wBytes k a_p1ou 1024 (res.2.2.1), wRules k a_p1ru (res.2.2.2.1), wCourt k a_p1no (res.2.2.2.2.1), wCourt k a_p1fo (res.2.2.2.2.2.1), wReader k a_p1rd (a_p1in 0) (a_p1fo 0) (a_p1rr 0) (res.2.2.2.2.2.2.1), wRules k a_p1rr (res.2.2.2.2.2.2.2.1), wPast k a_p1pa pp (res.2.2.2.2.2.2.2.2.1), wModel k a_p2 (res.2.2.2.2.2.2.2.2.2.1), wJArr k a_p3 1 (res.2.2.2.2.2.2.2.2.2.2.1)] ++ savW k sa (res.2.2.2.2.2.2.2.2.2.2.2)) ++ poolW k pp (res.2.2.2.2.2.2.2.2.1).2) H locs → lv_has ls 9 [(0, .ref b), (1, .ref (a_p1 0)), (2, .ref (a_p2 0)), (3, .ref (a_p3 0)), (4, .int v4)] → W p l e room_1 s m #[Value.ref b] below meth c H locs cells slots Q (F0 m 2474 ls [])) :
    W p l e room_1 s m #[Value.ref b] below meth c H locs c0 s0 Q (F0 m 748 ls []) := by
  unfold f_law_13 at hf
  refine k_aload_n E hl 1 dL_law_748 rfl ?_
  refine k_aload_n E hl 0 dL_law_749 rfl ?_
  refine k_iload E hl 4 dL_law_750 rfl ?_
  refine lv_iconst (v := (1 : Int32)) E.hx E.hb dL_law_752 ic_1 ?_
  refine lv_iadd E.hx E.hb dL_law_753 ?_
  obtain ⟨hin, hf⟩ := oI hf
  obtain ⟨x_1, ex_1, hf⟩ := oL hf
  refine va_sld E.hx E.hb hX hbl hbA hW.2.2 hin dL_law_754 ?_
  refine k_topi ex_1 ?_
  refine k_aload_n E hl 0 dL_law_755 rfl ?_
  refine k_iload E hl 4 dL_law_756 rfl ?_
  refine lv_iconst (v := (2 : Int32)) E.hx E.hb dL_law_758 ic_2 ?_
  refine lv_iadd E.hx E.hb dL_law_759 ?_
  obtain ⟨hin, hf⟩ := oI hf
  obtain ⟨x_2, ex_2, hf⟩ := oL hf
  refine va_sld E.hx E.hb hX hbl hbA hW.2.2 hin dL_law_760 ?_
  refine k_topi ex_2 ?_
  refine k_aload_n E hl 3 dL_law_761 rfl ?_
  obtain ⟨p3_3, r_4, hg, hf⟩ := ob2 hf
  refine k_callSXi (As := [.ref (a_p1 0), .int x_1, .int x_2, .ref (a_p3 0)]) (rest := []) (ws2 := fun u => (List.flatten [wMCo k a_p1 (a_p1in 0) (a_p1ou 0) (a_p1ru 0) (a_p1no 0) (a_p1fo 0) (a_p1rd 0) (a_p1pa 0) (svV sa_0 so_0) p1_0, wBytes k a_p1in 600 p1in_0, wBytes k a_p1ou 1024 p1ou_0, wRules k a_p1ru p1ru_0, wCourt k a_p1no p1no_0, wCourt k a_p1fo p1fo_0, wReader k a_p1rd (a_p1in 0) (a_p1fo 0) (a_p1rr 0) p1rd_0, wRules k a_p1rr p1rr_0, wPast k a_p1pa pp_0 p1pa_0, wModel k a_p2 p2_0, wJArr k a_p3 1 (u)] ++ savW k sa_0 so_0) ++ poolW k pp_0 p1pa_0.2) (c_L_claim n l k hN hx a_p1 a_p1in a_p1ou a_p1ru a_p1no a_p1fo a_p1rd a_p1pa a_p3 (svV sa_0 so_0) p1_0 p1no_0 1 p3_0 x_1 x_2 (p3_3, r_4) hg) E sw_172 rfl dL_law_762 rfl (posOf [1, 2, 2, 3, 12, 12, 1, 3, 2, 13, 1] [0, 4, 10]) hW hA hl rfl (law_map (ln := [1, 2, 2, 3, 12, 12, 1, 3, 2, 13, 1]) (is := [0, 4, 10]) (cs := [wMCo k a_p1 (a_p1in 0) (a_p1ou 0) (a_p1ru 0) (a_p1no 0) (a_p1fo 0) (a_p1rd 0) (a_p1pa 0) (svV sa_0 so_0) p1_0, wCourt k a_p1no p1no_0, wJArr k a_p3 1 p3_0]) (fl3 _ _ _) rfl (by decide) rfl) ⟨Nat.le_of_ble_eq_true rfl, Nat.le_of_ble_eq_true rfl⟩ ⟨by show _ ≤ 601024; omega, by show _ ≤ 7293034; omega⟩ (Nat.le_of_ble_eq_true rfl) rfl (fun _ => rfl) (fun u => law_put (ln := [1, 2, 2, 3, 12, 12, 1, 3, 2, 13, 1]) (is := [0, 4, 10]) (cs0 := [wMCo k a_p1 (a_p1in 0) (a_p1ou 0) (a_p1ru 0) (a_p1no 0) (a_p1fo 0) (a_p1rd 0) (a_p1pa 0) (svV sa_0 so_0) p1_0, wCourt k a_p1no p1no_0, wJArr k a_p3 1 p3_0]) (cs := [wMCo k a_p1 (a_p1in 0) (a_p1ou 0) (a_p1ru 0) (a_p1no 0) (a_p1fo 0) (a_p1rd 0) (a_p1pa 0) (svV sa_0 so_0) p1_0, wCourt k a_p1no p1no_0, wJArr k a_p3 1 (u)]) (fl3 _ _ _) rfl (by decide) rfl rfl) (fun r u H locs hp hW => ?_)
  cases hp
  have hW : WD k A s.heap ((List.flatten [wMCo k a_p1 (a_p1in 0) (a_p1ou 0) (a_p1ru 0) (a_p1no 0) (a_p1fo 0) (a_p1rd 0) (a_p1pa 0) (svV sa_0 so_0) p1_0, wBytes k a_p1in 600 p1in_0, wBytes k a_p1ou 1024 p1ou_0, wRules k a_p1ru p1ru_0, wCourt k a_p1no p1no_0, wCourt k a_p1fo p1fo_0, wReader k a_p1rd (a_p1in 0) (a_p1fo 0) (a_p1rr 0) p1rd_0, wRules k a_p1rr p1rr_0, wPast k a_p1pa pp_0 p1pa_0, wModel k a_p2 p2_0, wJArr k a_p3 1 p3_3] ++ savW k sa_0 so_0) ++ poolW k pp_0 p1pa_0.2) H locs := hW
  refine k_istore (lv' := [(5, .int r_4), (0, .ref b), (1, .ref (a_p1 0)), (2, .ref (a_p2 0)), (3, .ref (a_p3 0)), (4, .int v4)]) E rfl hl dL_law_765 (by decide) rfl (fun ls hl => ?_)
  refine k_aload_n E hl 3 dL_law_767 rfl ?_
  refine k_aload_n E hl 1 dL_law_768 rfl ?_
  refine k_iload E hl 5 dL_law_769 rfl ?_
  refine lv_iconst (v := (1 : Int32)) E.hx E.hb dL_law_771 ic_1 ?_
  refine lv_iadd E.hx E.hb dL_law_772 ?_
  obtain ⟨hin, hf⟩ := oI hf
  obtain ⟨x_5, ex_5, hf⟩ := oL hf
  refine va_sld E.hx E.hb hX hbl hbA hW.2.2 hin dL_law_773 ?_
  refine k_topi ex_5 ?_
  refine k_aload_n E hl 1 dL_law_774 rfl ?_
  refine k_iload E hl 5 dL_law_775 rfl ?_
  refine lv_iconst (v := (2 : Int32)) E.hx E.hb dL_law_777 ic_2 ?_
  refine lv_iadd E.hx E.hb dL_law_778 ?_
  obtain ⟨hin, hf⟩ := oI hf
  obtain ⟨x_6, ex_6, hf⟩ := oL hf
  refine va_sld E.hx E.hb hX hbl hbA hW.2.2 hin dL_law_779 ?_
  refine k_topi ex_6 ?_
  obtain ⟨p2_7, r_8, hg, hf⟩ := ob2 hf
  refine k_callVi (As := [.int x_5, .int x_6]) (rest := []) (ws2 := fun u => (List.flatten [wMCo k a_p1 (a_p1in 0) (a_p1ou 0) (a_p1ru 0) (a_p1no 0) (a_p1fo 0) (a_p1rd 0) (a_p1pa 0) (svV sa_0 so_0) p1_0, wBytes k a_p1in 600 p1in_0, wBytes k a_p1ou 1024 p1ou_0, wRules k a_p1ru p1ru_0, wCourt k a_p1no p1no_0, wCourt k a_p1fo p1fo_0, wReader k a_p1rd (a_p1in 0) (a_p1fo 0) (a_p1rr 0) p1rd_0, wRules k a_p1rr p1rr_0, wPast k a_p1pa pp_0 p1pa_0, wModel k a_p2 (u), wJArr k a_p3 1 p3_3] ++ savW k sa_0 so_0) ++ poolW k pp_0 p1pa_0.2) (c_X9_claim n l k a_p2 p2_0 x_5 x_6 (p2_7, r_8) hg) E vl_L_174 dL_law_780 rfl (posOf [1, 2, 2, 3, 12, 12, 1, 3, 2, 13, 1] [9]) 7 38 hW hA hl rfl (law_map (ln := [1, 2, 2, 3, 12, 12, 1, 3, 2, 13, 1]) (is := [9]) (cs := [wModel k a_p2 p2_0]) (fl1 _) rfl (by decide) rfl) rfl rfl ⟨Nat.le_of_ble_eq_true rfl, Nat.le_of_ble_eq_true rfl⟩ ⟨by show _ ≤ 601024; omega, by show _ ≤ 7293034; omega⟩ (Nat.le_of_ble_eq_true rfl) rfl (fun _ => rfl) (fun u => law_put (ln := [1, 2, 2, 3, 12, 12, 1, 3, 2, 13, 1]) (is := [9]) (cs0 := [wModel k a_p2 p2_0]) (cs := [wModel k a_p2 (u)]) (fl1 _) rfl (by decide) rfl rfl) (fun r u H locs hp hW => ?_)
  cases hp
  have hW : WD k A s.heap ((List.flatten [wMCo k a_p1 (a_p1in 0) (a_p1ou 0) (a_p1ru 0) (a_p1no 0) (a_p1fo 0) (a_p1rd 0) (a_p1pa 0) (svV sa_0 so_0) p1_0, wBytes k a_p1in 600 p1in_0, wBytes k a_p1ou 1024 p1ou_0, wRules k a_p1ru p1ru_0, wCourt k a_p1no p1no_0, wCourt k a_p1fo p1fo_0, wReader k a_p1rd (a_p1in 0) (a_p1fo 0) (a_p1rr 0) p1rd_0, wRules k a_p1rr p1rr_0, wPast k a_p1pa pp_0 p1pa_0, wModel k a_p2 p2_7, wJArr k a_p3 1 p3_3] ++ savW k sa_0 so_0) ++ poolW k pp_0 p1pa_0.2) H locs := hW
  refine k_istore (lv' := [(6, .int r_8), (5, .int r_4), (0, .ref b), (1, .ref (a_p1 0)), (2, .ref (a_p2 0)), (3, .ref (a_p3 0)), (4, .int v4)]) E rfl hl dL_law_783 (by decide) rfl (fun ls hl => ?_)
  refine k_aload_n E hl 4 dL_law_785 rfl ?_
  obtain ⟨r_9, hg, hf⟩ := ob hf
  refine k_callVi (As := []) (rest := []) (ws2 := fun u => (List.flatten [wMCo k a_p1 (a_p1in 0) (a_p1ou 0) (a_p1ru 0) (a_p1no 0) (a_p1fo 0) (a_p1rd 0) (a_p1pa 0) (svV sa_0 so_0) p1_0, wBytes k a_p1in 600 p1in_0, wBytes k a_p1ou 1024 p1ou_0, wRules k a_p1ru p1ru_0, wCourt k a_p1no p1no_0, wCourt k a_p1fo p1fo_0, wReader k a_p1rd (a_p1in 0) (a_p1fo 0) (a_p1rr 0) p1rd_0, wRules k a_p1rr p1rr_0, wPast k a_p1pa pp_0 p1pa_0, wModel k a_p2 p2_7, wJArr k a_p3 1 p3_3] ++ savW k sa_0 so_0) ++ poolW k pp_0 p1pa_0.2) (c_X9_thrown n l k a_p2 p2_7 r_9 hg) E vl_L_152 dL_law_786 rfl (posOf [1, 2, 2, 3, 12, 12, 1, 3, 2, 13, 1] [9]) 7 38 hW hA hl rfl (law_map (ln := [1, 2, 2, 3, 12, 12, 1, 3, 2, 13, 1]) (is := [9]) (cs := [wModel k a_p2 p2_7]) (fl1 _) rfl (by decide) rfl) rfl rfl ⟨Nat.le_of_ble_eq_true rfl, Nat.le_of_ble_eq_true rfl⟩ ⟨by show _ ≤ 601024; omega, by show _ ≤ 7293034; omega⟩ (Nat.le_of_ble_eq_true rfl) rfl (fun _ => rfl) (fun u => law_put (ln := [1, 2, 2, 3, 12, 12, 1, 3, 2, 13, 1]) (is := [9]) (cs0 := [wModel k a_p2 p2_7]) (cs := [wModel k a_p2 p2_7]) (fl1 _) rfl (by decide) rfl rfl) (fun r u H locs hp hW => ?_)
  cases hp
  have hW : WD k A s.heap ((List.flatten [wMCo k a_p1 (a_p1in 0) (a_p1ou 0) (a_p1ru 0) (a_p1no 0) (a_p1fo 0) (a_p1rd 0) (a_p1pa 0) (svV sa_0 so_0) p1_0, wBytes k a_p1in 600 p1in_0, wBytes k a_p1ou 1024 p1ou_0, wRules k a_p1ru p1ru_0, wCourt k a_p1no p1no_0, wCourt k a_p1fo p1fo_0, wReader k a_p1rd (a_p1in 0) (a_p1fo 0) (a_p1rr 0) p1rd_0, wRules k a_p1rr p1rr_0, wPast k a_p1pa pp_0 p1pa_0, wModel k a_p2 p2_7, wJArr k a_p3 1 p3_3] ++ savW k sa_0 so_0) ++ poolW k pp_0 p1pa_0.2) H locs := hW
  refine k_iload E hl 1 dL_law_789 rfl ?_
  refine lv_icmp_eq (tgt := 796) E.hx E.hb dL_law_791 (by decide) (fun hc => ?_) (fun hc => ?_)
  · have hf := oT hc hf
    refine k_iload E hl 1 dL_law_796 rfl ?_
    refine lv_if_ne (tgt := 813) E.hx E.hb dL_law_798 (by decide) (fun hc => ?_) (fun hc => ?_)
    · have hf := oF hc hf
      refine lv_goto (tgt := 2474) E.hx E.hb dL_law_813 (by decide) ?_
      exact hgo pp_0 sa_0 _ _ _ _ _ (by omega) (by omega) (by cases hf; exact hW) (lv_sub hl [2, 3, 4, 5, 6] rfl)
    · have hf := oT hc hf
      refine k_aload_n E hl 5 dL_law_801 rfl ?_
      refine lv_iconst (v := (0 : Int32)) E.hx E.hb dL_law_802 ic_0 ?_
      obtain ⟨hin, hf⟩ := oI hf
      obtain ⟨x_10, ex_10, hf⟩ := oL hf
      refine k_lald E hW 51 rfl hin dL_law_803 ?_
      refine k_topl ex_10 ?_
      refine k_iload E hl 0 dL_law_804 rfl ?_
      refine lv_i2l (v := (r_8).toInt64) E.hx E.hb dL_law_806 rfl ?_
      refine W.lcmp E.hx E.hb dL_law_807 ?_
      refine lv_if_eq (tgt := 813) E.hx E.hb dL_law_808 (by decide) (fun hc => ?_) (fun hc => ?_)
      · have hf := oT hc hf
        refine lv_goto (tgt := 2474) E.hx E.hb dL_law_813 (by decide) ?_
        exact hgo pp_0 sa_0 _ _ _ _ _ (by omega) (by omega) (by cases hf; exact hW) (lv_sub hl [2, 3, 4, 5, 6] rfl)
      · have hf := oF hc hf
        refine lv_iconst (v := (0 : Int32)) E.hx E.hb dL_law_811 ic_0 ?_
        exact o0 hf
  · have hf := oF hc hf
    refine lv_iconst (v := (0 : Int32)) E.hx E.hb dL_law_794 ic_0 ?_
    exact o0 hf
def f_law_14 (n : Nat) (L : Nat) (xs : Nat → Int32) (v4 : Int32) (sv_0 : Value) (p1_0 : OS) (p1in_0 : OS) (p1ou_0 : OS) (p1ru_0 : OS) (p1no_0 : OS) (p1fo_0 : OS) (p1rd_0 : OS) (p1rr_0 : OS) (p1pa_0 : PS) (p2_0 : OS) (p3_0 : Nat → Int64) (so_0 : Option OS) : Option LST :=
  gI L (v4 + (1 : Int32)) (Let (xs (v4 + (1 : Int32)).toNatClampNeg) (fun x_1 : Int32 =>
  bnd3 (f_L_waiting n sv_0 p1_0 p1no_0 1 p3_0 x_1) (fun (p1no_2 : OS) (p3_3 : Nat → Int64) (r_4 : Int32) =>
  gI L (v4 + (1 : Int32)) (Let (xs (v4 + (1 : Int32)).toNatClampNeg) (fun x_5 : Int32 =>
  bnd2 (f_X9_waiting n p2_0 x_5) (fun (p2_6 : OS) (r_7 : Int32) =>
  bnd (f_X9_thrown n p2_6) (fun (r_8 : Int32) =>
  if r_8 = r_4 then (
  if r_4 = 0 then (
  gI 1 (0 : Int32) (Let (p3_3 (0 : Int32).toNatClampNeg) (fun x_9 : Int64 =>
  if (lg_cmp x_9 ((r_7).toInt64)) = 0 then (
  some (p1_0, p1in_0, p1ou_0, p1ru_0, p1no_2, p1fo_0, p1rd_0, p1rr_0, p1pa_0, p2_6, p3_3, so_0)) else (
  none)))) else (
  some (p1_0, p1in_0, p1ou_0, p1ru_0, p1no_2, p1fo_0, p1rd_0, p1rr_0, p1pa_0, p2_6, p3_3, so_0))) else (
  none))))))))
set_option maxHeartbeats 4000000 in
set_option maxRecDepth 100000 in
theorem c_law_14 {p : Program} {l : Launch} {e : Env} {s : State} {m : MethodId} {below : List Frame} {meth : Method} {c : Code} {A : Nat → Prop} {Q : State → Prop} {b L : Nat} {xs : Nat → Int32} {k : KT} (n : Nat) (hE : EH k) (hx : XH l k) (hN : CCH k) (E : E0 p s m c cL_law 9 RL k A) (hX : va_X b L xs s s.heap) (hbl : b < s.heap.size) (hbA : ¬ A b) (hA : ∀ q : Nat, s.heap.size ≤ q → A q) (a_p1 : Nat → Nat) (a_p1in : Nat → Nat) (a_p1ou : Nat → Nat) (a_p1ru : Nat → Nat) (a_p1no : Nat → Nat) (a_p1fo : Nat → Nat) (a_p1rd : Nat → Nat) (a_p1rr : Nat → Nat) (a_p1pa : Nat → Nat) (a_p2 : Nat → Nat) (a_p3 : Nat → Nat) (pp_0 : Nat → Nat → Nat) (sa_0 : Nat → Nat) (v4 : Int32) (p1_0 : OS) (p1in_0 : OS) (p1ou_0 : OS) (p1ru_0 : OS) (p1no_0 : OS) (p1fo_0 : OS) (p1rd_0 : OS) (p1rr_0 : OS) (p1pa_0 : PS) (p2_0 : OS) (p3_0 : Nat → Int64) (so_0 : Option OS) (res : LST) (hf : f_law_14 n L xs v4 (svV sa_0 so_0) p1_0 p1in_0 p1ou_0 p1ru_0 p1no_0 p1fo_0 p1rd_0 p1rr_0 p1pa_0 p2_0 p3_0 so_0 = some res)
    (H : Heap) (locs : List Loc) (ls : Array Slot) (c0 s0 : Nat) (hc0 : c0 + 40 ≤ 601024) (hs0 : s0 + 8000 ≤ 7293034) (hW : WD k A s.heap ((List.flatten [wMCo k a_p1 (a_p1in 0) (a_p1ou 0) (a_p1ru 0) (a_p1no 0) (a_p1fo 0) (a_p1rd 0) (a_p1pa 0) (svV sa_0 so_0) p1_0, wBytes k a_p1in 600 p1in_0, wBytes k a_p1ou 1024 p1ou_0, wRules k a_p1ru p1ru_0, wCourt k a_p1no p1no_0, wCourt k a_p1fo p1fo_0, wReader k a_p1rd (a_p1in 0) (a_p1fo 0) (a_p1rr 0) p1rd_0, wRules k a_p1rr p1rr_0, wPast k a_p1pa pp_0 p1pa_0, wModel k a_p2 p2_0, wJArr k a_p3 1 p3_0] ++ savW k sa_0 so_0) ++ poolW k pp_0 p1pa_0.2) H locs) (hl : lv_has ls 9 [(0, .ref b), (1, .ref (a_p1 0)), (2, .ref (a_p2 0)), (3, .ref (a_p3 0)), (4, .int v4)])
    (hgo : ∀ (pp : Nat → Nat → Nat) (sa : Nat → Nat) (H : Heap) (locs : List Loc) (ls : Array Slot) (cells slots : Nat), cells ≤ c0 + 40 → slots ≤ s0 + 8000 → WD k A s.heap ((List.flatten [wMCo k a_p1 (a_p1in 0) (a_p1ou 0) (a_p1ru 0) (a_p1no 0) (a_p1fo 0) (a_p1rd 0) (a_p1pa 0) (svV sa (res.2.2.2.2.2.2.2.2.2.2.2)) (res.1), wBytes k a_p1in 600 (res.2.1), wBytes k a_p1ou 1024 (res.2.2.1), wRules k a_p1ru (res.2.2.2.1), wCourt k a_p1no (res.2.2.2.2.1), wCourt k a_p1fo (res.2.2.2.2.2.1), wReader k a_p1rd (a_p1in 0) (a_p1fo 0) (a_p1rr 0) (res.2.2.2.2.2.2.1), wRules k a_p1rr (res.2.2.2.2.2.2.2.1), wPast k a_p1pa pp (res.2.2.2.2.2.2.2.2.1), wModel k a_p2 (res.2.2.2.2.2.2.2.2.2.1), wJArr k a_p3 1 (res.2.2.2.2.2.2.2.2.2.2.1)] ++ savW k sa (res.2.2.2.2.2.2.2.2.2.2.2)) ++ poolW k pp (res.2.2.2.2.2.2.2.2.1).2) H locs → lv_has ls 9 [(0, .ref b), (1, .ref (a_p1 0)), (2, .ref (a_p2 0)), (3, .ref (a_p3 0)), (4, .int v4)] → W p l e room_1 s m #[Value.ref b] below meth c H locs cells slots Q (F0 m 2474 ls [])) :
    W p l e room_1 s m #[Value.ref b] below meth c H locs c0 s0 Q (F0 m 816 ls []) := by
  unfold f_law_14 at hf
  refine k_aload_n E hl 1 dL_law_816 rfl ?_
  refine k_aload_n E hl 0 dL_law_817 rfl ?_
  refine k_iload E hl 4 dL_law_818 rfl ?_
  refine lv_iconst (v := (1 : Int32)) E.hx E.hb dL_law_820 ic_1 ?_
  refine lv_iadd E.hx E.hb dL_law_821 ?_
  obtain ⟨hin, hf⟩ := oI hf
  obtain ⟨x_1, ex_1, hf⟩ := oL hf
  refine va_sld E.hx E.hb hX hbl hbA hW.2.2 hin dL_law_822 ?_
  refine k_topi ex_1 ?_
  refine k_aload_n E hl 3 dL_law_823 rfl ?_
  obtain ⟨p1no_2, p3_3, r_4, hg, hf⟩ := ob3 hf
  refine k_callSXi (As := [.ref (a_p1 0), .int x_1, .ref (a_p3 0)]) (rest := []) (ws2 := fun u => (List.flatten [wMCo k a_p1 (a_p1in 0) (a_p1ou 0) (a_p1ru 0) (a_p1no 0) (a_p1fo 0) (a_p1rd 0) (a_p1pa 0) (svV sa_0 so_0) p1_0, wBytes k a_p1in 600 p1in_0, wBytes k a_p1ou 1024 p1ou_0, wRules k a_p1ru p1ru_0, wCourt k a_p1no (u.1), wCourt k a_p1fo p1fo_0, wReader k a_p1rd (a_p1in 0) (a_p1fo 0) (a_p1rr 0) p1rd_0, wRules k a_p1rr p1rr_0, wPast k a_p1pa pp_0 p1pa_0, wModel k a_p2 p2_0, wJArr k a_p3 1 (u.2)] ++ savW k sa_0 so_0) ++ poolW k pp_0 p1pa_0.2) (c_L_waiting n l k hN hx a_p1 a_p1in a_p1ou a_p1ru a_p1no a_p1fo a_p1rd a_p1pa a_p3 (svV sa_0 so_0) p1_0 p1no_0 1 p3_0 x_1 (p1no_2, p3_3, r_4) hg) E sw_175 rfl dL_law_824 rfl (posOf [1, 2, 2, 3, 12, 12, 1, 3, 2, 13, 1] [0, 4, 10]) hW hA hl rfl (law_map (ln := [1, 2, 2, 3, 12, 12, 1, 3, 2, 13, 1]) (is := [0, 4, 10]) (cs := [wMCo k a_p1 (a_p1in 0) (a_p1ou 0) (a_p1ru 0) (a_p1no 0) (a_p1fo 0) (a_p1rd 0) (a_p1pa 0) (svV sa_0 so_0) p1_0, wCourt k a_p1no p1no_0, wJArr k a_p3 1 p3_0]) (fl3 _ _ _) rfl (by decide) rfl) ⟨Nat.le_of_ble_eq_true rfl, Nat.le_of_ble_eq_true rfl⟩ ⟨by show _ ≤ 601024; omega, by show _ ≤ 7293034; omega⟩ (Nat.le_of_ble_eq_true rfl) rfl (fun _ => rfl) (fun u => law_put (ln := [1, 2, 2, 3, 12, 12, 1, 3, 2, 13, 1]) (is := [0, 4, 10]) (cs0 := [wMCo k a_p1 (a_p1in 0) (a_p1ou 0) (a_p1ru 0) (a_p1no 0) (a_p1fo 0) (a_p1rd 0) (a_p1pa 0) (svV sa_0 so_0) p1_0, wCourt k a_p1no p1no_0, wJArr k a_p3 1 p3_0]) (cs := [wMCo k a_p1 (a_p1in 0) (a_p1ou 0) (a_p1ru 0) (a_p1no 0) (a_p1fo 0) (a_p1rd 0) (a_p1pa 0) (svV sa_0 so_0) p1_0, wCourt k a_p1no (u.1), wJArr k a_p3 1 (u.2)]) (fl3 _ _ _) rfl (by decide) rfl rfl) (fun r u H locs hp hW => ?_)
  obtain ⟨u0, u1⟩ := u
  try dsimp only at hp
  cases hp
  have hW : WD k A s.heap ((List.flatten [wMCo k a_p1 (a_p1in 0) (a_p1ou 0) (a_p1ru 0) (a_p1no 0) (a_p1fo 0) (a_p1rd 0) (a_p1pa 0) (svV sa_0 so_0) p1_0, wBytes k a_p1in 600 p1in_0, wBytes k a_p1ou 1024 p1ou_0, wRules k a_p1ru p1ru_0, wCourt k a_p1no p1no_2, wCourt k a_p1fo p1fo_0, wReader k a_p1rd (a_p1in 0) (a_p1fo 0) (a_p1rr 0) p1rd_0, wRules k a_p1rr p1rr_0, wPast k a_p1pa pp_0 p1pa_0, wModel k a_p2 p2_0, wJArr k a_p3 1 p3_3] ++ savW k sa_0 so_0) ++ poolW k pp_0 p1pa_0.2) H locs := hW
  refine k_istore (lv' := [(5, .int r_4), (0, .ref b), (1, .ref (a_p1 0)), (2, .ref (a_p2 0)), (3, .ref (a_p3 0)), (4, .int v4)]) E rfl hl dL_law_827 (by decide) rfl (fun ls hl => ?_)
  refine k_aload_n E hl 3 dL_law_829 rfl ?_
  refine k_aload_n E hl 1 dL_law_830 rfl ?_
  refine k_iload E hl 5 dL_law_831 rfl ?_
  refine lv_iconst (v := (1 : Int32)) E.hx E.hb dL_law_833 ic_1 ?_
  refine lv_iadd E.hx E.hb dL_law_834 ?_
  obtain ⟨hin, hf⟩ := oI hf
  obtain ⟨x_5, ex_5, hf⟩ := oL hf
  refine va_sld E.hx E.hb hX hbl hbA hW.2.2 hin dL_law_835 ?_
  refine k_topi ex_5 ?_
  obtain ⟨p2_6, r_7, hg, hf⟩ := ob2 hf
  refine k_callVi (As := [.int x_5]) (rest := []) (ws2 := fun u => (List.flatten [wMCo k a_p1 (a_p1in 0) (a_p1ou 0) (a_p1ru 0) (a_p1no 0) (a_p1fo 0) (a_p1rd 0) (a_p1pa 0) (svV sa_0 so_0) p1_0, wBytes k a_p1in 600 p1in_0, wBytes k a_p1ou 1024 p1ou_0, wRules k a_p1ru p1ru_0, wCourt k a_p1no p1no_2, wCourt k a_p1fo p1fo_0, wReader k a_p1rd (a_p1in 0) (a_p1fo 0) (a_p1rr 0) p1rd_0, wRules k a_p1rr p1rr_0, wPast k a_p1pa pp_0 p1pa_0, wModel k a_p2 (u), wJArr k a_p3 1 p3_3] ++ savW k sa_0 so_0) ++ poolW k pp_0 p1pa_0.2) (c_X9_waiting n l k a_p2 p2_0 x_5 (p2_6, r_7) hg) E vl_L_177 dL_law_836 rfl (posOf [1, 2, 2, 3, 12, 12, 1, 3, 2, 13, 1] [9]) 7 38 hW hA hl rfl (law_map (ln := [1, 2, 2, 3, 12, 12, 1, 3, 2, 13, 1]) (is := [9]) (cs := [wModel k a_p2 p2_0]) (fl1 _) rfl (by decide) rfl) rfl rfl ⟨Nat.le_of_ble_eq_true rfl, Nat.le_of_ble_eq_true rfl⟩ ⟨by show _ ≤ 601024; omega, by show _ ≤ 7293034; omega⟩ (Nat.le_of_ble_eq_true rfl) rfl (fun _ => rfl) (fun u => law_put (ln := [1, 2, 2, 3, 12, 12, 1, 3, 2, 13, 1]) (is := [9]) (cs0 := [wModel k a_p2 p2_0]) (cs := [wModel k a_p2 (u)]) (fl1 _) rfl (by decide) rfl rfl) (fun r u H locs hp hW => ?_)
  cases hp
  have hW : WD k A s.heap ((List.flatten [wMCo k a_p1 (a_p1in 0) (a_p1ou 0) (a_p1ru 0) (a_p1no 0) (a_p1fo 0) (a_p1rd 0) (a_p1pa 0) (svV sa_0 so_0) p1_0, wBytes k a_p1in 600 p1in_0, wBytes k a_p1ou 1024 p1ou_0, wRules k a_p1ru p1ru_0, wCourt k a_p1no p1no_2, wCourt k a_p1fo p1fo_0, wReader k a_p1rd (a_p1in 0) (a_p1fo 0) (a_p1rr 0) p1rd_0, wRules k a_p1rr p1rr_0, wPast k a_p1pa pp_0 p1pa_0, wModel k a_p2 p2_6, wJArr k a_p3 1 p3_3] ++ savW k sa_0 so_0) ++ poolW k pp_0 p1pa_0.2) H locs := hW
  refine k_istore (lv' := [(6, .int r_7), (5, .int r_4), (0, .ref b), (1, .ref (a_p1 0)), (2, .ref (a_p2 0)), (3, .ref (a_p3 0)), (4, .int v4)]) E rfl hl dL_law_839 (by decide) rfl (fun ls hl => ?_)
  refine k_aload_n E hl 4 dL_law_841 rfl ?_
  obtain ⟨r_8, hg, hf⟩ := ob hf
  refine k_callVi (As := []) (rest := []) (ws2 := fun u => (List.flatten [wMCo k a_p1 (a_p1in 0) (a_p1ou 0) (a_p1ru 0) (a_p1no 0) (a_p1fo 0) (a_p1rd 0) (a_p1pa 0) (svV sa_0 so_0) p1_0, wBytes k a_p1in 600 p1in_0, wBytes k a_p1ou 1024 p1ou_0, wRules k a_p1ru p1ru_0, wCourt k a_p1no p1no_2, wCourt k a_p1fo p1fo_0, wReader k a_p1rd (a_p1in 0) (a_p1fo 0) (a_p1rr 0) p1rd_0, wRules k a_p1rr p1rr_0, wPast k a_p1pa pp_0 p1pa_0, wModel k a_p2 p2_6, wJArr k a_p3 1 p3_3] ++ savW k sa_0 so_0) ++ poolW k pp_0 p1pa_0.2) (c_X9_thrown n l k a_p2 p2_6 r_8 hg) E vl_L_152 dL_law_842 rfl (posOf [1, 2, 2, 3, 12, 12, 1, 3, 2, 13, 1] [9]) 7 38 hW hA hl rfl (law_map (ln := [1, 2, 2, 3, 12, 12, 1, 3, 2, 13, 1]) (is := [9]) (cs := [wModel k a_p2 p2_6]) (fl1 _) rfl (by decide) rfl) rfl rfl ⟨Nat.le_of_ble_eq_true rfl, Nat.le_of_ble_eq_true rfl⟩ ⟨by show _ ≤ 601024; omega, by show _ ≤ 7293034; omega⟩ (Nat.le_of_ble_eq_true rfl) rfl (fun _ => rfl) (fun u => law_put (ln := [1, 2, 2, 3, 12, 12, 1, 3, 2, 13, 1]) (is := [9]) (cs0 := [wModel k a_p2 p2_6]) (cs := [wModel k a_p2 p2_6]) (fl1 _) rfl (by decide) rfl rfl) (fun r u H locs hp hW => ?_)
  cases hp
  have hW : WD k A s.heap ((List.flatten [wMCo k a_p1 (a_p1in 0) (a_p1ou 0) (a_p1ru 0) (a_p1no 0) (a_p1fo 0) (a_p1rd 0) (a_p1pa 0) (svV sa_0 so_0) p1_0, wBytes k a_p1in 600 p1in_0, wBytes k a_p1ou 1024 p1ou_0, wRules k a_p1ru p1ru_0, wCourt k a_p1no p1no_2, wCourt k a_p1fo p1fo_0, wReader k a_p1rd (a_p1in 0) (a_p1fo 0) (a_p1rr 0) p1rd_0, wRules k a_p1rr p1rr_0, wPast k a_p1pa pp_0 p1pa_0, wModel k a_p2 p2_6, wJArr k a_p3 1 p3_3] ++ savW k sa_0 so_0) ++ poolW k pp_0 p1pa_0.2) H locs := hW
  refine k_iload E hl 1 dL_law_845 rfl ?_
  refine lv_icmp_eq (tgt := 852) E.hx E.hb dL_law_847 (by decide) (fun hc => ?_) (fun hc => ?_)
  · have hf := oT hc hf
    refine k_iload E hl 1 dL_law_852 rfl ?_
    refine lv_if_ne (tgt := 869) E.hx E.hb dL_law_854 (by decide) (fun hc => ?_) (fun hc => ?_)
    · have hf := oF hc hf
      refine lv_goto (tgt := 2474) E.hx E.hb dL_law_869 (by decide) ?_
      exact hgo pp_0 sa_0 _ _ _ _ _ (by omega) (by omega) (by cases hf; exact hW) (lv_sub hl [2, 3, 4, 5, 6] rfl)
    · have hf := oT hc hf
      refine k_aload_n E hl 5 dL_law_857 rfl ?_
      refine lv_iconst (v := (0 : Int32)) E.hx E.hb dL_law_858 ic_0 ?_
      obtain ⟨hin, hf⟩ := oI hf
      obtain ⟨x_9, ex_9, hf⟩ := oL hf
      refine k_lald E hW 51 rfl hin dL_law_859 ?_
      refine k_topl ex_9 ?_
      refine k_iload E hl 0 dL_law_860 rfl ?_
      refine lv_i2l (v := (r_7).toInt64) E.hx E.hb dL_law_862 rfl ?_
      refine W.lcmp E.hx E.hb dL_law_863 ?_
      refine lv_if_eq (tgt := 869) E.hx E.hb dL_law_864 (by decide) (fun hc => ?_) (fun hc => ?_)
      · have hf := oT hc hf
        refine lv_goto (tgt := 2474) E.hx E.hb dL_law_869 (by decide) ?_
        exact hgo pp_0 sa_0 _ _ _ _ _ (by omega) (by omega) (by cases hf; exact hW) (lv_sub hl [2, 3, 4, 5, 6] rfl)
      · have hf := oF hc hf
        refine lv_iconst (v := (0 : Int32)) E.hx E.hb dL_law_867 ic_0 ?_
        exact o0 hf
  · have hf := oF hc hf
    refine lv_iconst (v := (0 : Int32)) E.hx E.hb dL_law_850 ic_0 ?_
    exact o0 hf
def f_law_15 (n : Nat) (L : Nat) (xs : Nat → Int32) (v4 : Int32) (sv_0 : Value) (p1_0 : OS) (p1in_0 : OS) (p1ou_0 : OS) (p1ru_0 : OS) (p1no_0 : OS) (p1fo_0 : OS) (p1rd_0 : OS) (p1rr_0 : OS) (p1pa_0 : PS) (p2_0 : OS) (p3_0 : Nat → Int64) (so_0 : Option OS) : Option LST :=
  gI L (v4 + (1 : Int32)) (Let (xs (v4 + (1 : Int32)).toNatClampNeg) (fun x_1 : Int32 =>
  gI L (v4 + (2 : Int32)) (Let (xs (v4 + (2 : Int32)).toNatClampNeg) (fun x_2 : Int32 =>
  bnd2 (f_L_fine n sv_0 p1_0 p1no_0 1 p3_0 x_1 x_2) (fun (p3_3 : Nat → Int64) (r_4 : Int32) =>
  gI L (v4 + (1 : Int32)) (Let (xs (v4 + (1 : Int32)).toNatClampNeg) (fun x_5 : Int32 =>
  gI L (v4 + (2 : Int32)) (Let (xs (v4 + (2 : Int32)).toNatClampNeg) (fun x_6 : Int32 =>
  bnd2 (f_X9_fine n p2_0 x_5 x_6) (fun (p2_7 : OS) (r_8 : Int32) =>
  bnd (f_X9_thrown n p2_7) (fun (r_9 : Int32) =>
  if r_9 = r_4 then (
  if r_4 = 0 then (
  gI 1 (0 : Int32) (Let (p3_3 (0 : Int32).toNatClampNeg) (fun x_10 : Int64 =>
  if (lg_cmp x_10 ((r_8).toInt64)) = 0 then (
  some (p1_0, p1in_0, p1ou_0, p1ru_0, p1no_0, p1fo_0, p1rd_0, p1rr_0, p1pa_0, p2_7, p3_3, so_0)) else (
  none)))) else (
  some (p1_0, p1in_0, p1ou_0, p1ru_0, p1no_0, p1fo_0, p1rd_0, p1rr_0, p1pa_0, p2_7, p3_3, so_0))) else (
  none))))))))))))
set_option maxHeartbeats 4000000 in
set_option maxRecDepth 100000 in
theorem c_law_15 {p : Program} {l : Launch} {e : Env} {s : State} {m : MethodId} {below : List Frame} {meth : Method} {c : Code} {A : Nat → Prop} {Q : State → Prop} {b L : Nat} {xs : Nat → Int32} {k : KT} (n : Nat) (hE : EH k) (hx : XH l k) (hN : CCH k) (E : E0 p s m c cL_law 9 RL k A) (hX : va_X b L xs s s.heap) (hbl : b < s.heap.size) (hbA : ¬ A b) (hA : ∀ q : Nat, s.heap.size ≤ q → A q) (a_p1 : Nat → Nat) (a_p1in : Nat → Nat) (a_p1ou : Nat → Nat) (a_p1ru : Nat → Nat) (a_p1no : Nat → Nat) (a_p1fo : Nat → Nat) (a_p1rd : Nat → Nat) (a_p1rr : Nat → Nat) (a_p1pa : Nat → Nat) (a_p2 : Nat → Nat) (a_p3 : Nat → Nat) (pp_0 : Nat → Nat → Nat) (sa_0 : Nat → Nat) (v4 : Int32) (p1_0 : OS) (p1in_0 : OS) (p1ou_0 : OS) (p1ru_0 : OS) (p1no_0 : OS) (p1fo_0 : OS) (p1rd_0 : OS) (p1rr_0 : OS) (p1pa_0 : PS) (p2_0 : OS) (p3_0 : Nat → Int64) (so_0 : Option OS) (res : LST) (hf : f_law_15 n L xs v4 (svV sa_0 so_0) p1_0 p1in_0 p1ou_0 p1ru_0 p1no_0 p1fo_0 p1rd_0 p1rr_0 p1pa_0 p2_0 p3_0 so_0 = some res)
    (H : Heap) (locs : List Loc) (ls : Array Slot) (c0 s0 : Nat) (hc0 : c0 + 40 ≤ 601024) (hs0 : s0 + 8000 ≤ 7293034) (hW : WD k A s.heap ((List.flatten [wMCo k a_p1 (a_p1in 0) (a_p1ou 0) (a_p1ru 0) (a_p1no 0) (a_p1fo 0) (a_p1rd 0) (a_p1pa 0) (svV sa_0 so_0) p1_0, wBytes k a_p1in 600 p1in_0, wBytes k a_p1ou 1024 p1ou_0, wRules k a_p1ru p1ru_0, wCourt k a_p1no p1no_0, wCourt k a_p1fo p1fo_0, wReader k a_p1rd (a_p1in 0) (a_p1fo 0) (a_p1rr 0) p1rd_0, wRules k a_p1rr p1rr_0, wPast k a_p1pa pp_0 p1pa_0, wModel k a_p2 p2_0, wJArr k a_p3 1 p3_0] ++ savW k sa_0 so_0) ++ poolW k pp_0 p1pa_0.2) H locs) (hl : lv_has ls 9 [(0, .ref b), (1, .ref (a_p1 0)), (2, .ref (a_p2 0)), (3, .ref (a_p3 0)), (4, .int v4)])
    (hgo : ∀ (pp : Nat → Nat → Nat) (sa : Nat → Nat) (H : Heap) (locs : List Loc) (ls : Array Slot) (cells slots : Nat), cells ≤ c0 + 40 → slots ≤ s0 + 8000 → WD k A s.heap ((List.flatten [wMCo k a_p1 (a_p1in 0) (a_p1ou 0) (a_p1ru 0) (a_p1no 0) (a_p1fo 0) (a_p1rd 0) (a_p1pa 0) (svV sa (res.2.2.2.2.2.2.2.2.2.2.2)) (res.1), wBytes k a_p1in 600 (res.2.1), wBytes k a_p1ou 1024 (res.2.2.1), wRules k a_p1ru (res.2.2.2.1), wCourt k a_p1no (res.2.2.2.2.1), wCourt k a_p1fo (res.2.2.2.2.2.1), wReader k a_p1rd (a_p1in 0) (a_p1fo 0) (a_p1rr 0) (res.2.2.2.2.2.2.1), wRules k a_p1rr (res.2.2.2.2.2.2.2.1), wPast k a_p1pa pp (res.2.2.2.2.2.2.2.2.1), wModel k a_p2 (res.2.2.2.2.2.2.2.2.2.1), wJArr k a_p3 1 (res.2.2.2.2.2.2.2.2.2.2.1)] ++ savW k sa (res.2.2.2.2.2.2.2.2.2.2.2)) ++ poolW k pp (res.2.2.2.2.2.2.2.2.1).2) H locs → lv_has ls 9 [(0, .ref b), (1, .ref (a_p1 0)), (2, .ref (a_p2 0)), (3, .ref (a_p3 0)), (4, .int v4)] → W p l e room_1 s m #[Value.ref b] below meth c H locs cells slots Q (F0 m 2474 ls [])) :
    W p l e room_1 s m #[Value.ref b] below meth c H locs c0 s0 Q (F0 m 872 ls []) := by
  unfold f_law_15 at hf
  refine k_aload_n E hl 1 dL_law_872 rfl ?_
  refine k_aload_n E hl 0 dL_law_873 rfl ?_
  refine k_iload E hl 4 dL_law_874 rfl ?_
  refine lv_iconst (v := (1 : Int32)) E.hx E.hb dL_law_876 ic_1 ?_
  refine lv_iadd E.hx E.hb dL_law_877 ?_
  obtain ⟨hin, hf⟩ := oI hf
  obtain ⟨x_1, ex_1, hf⟩ := oL hf
  refine va_sld E.hx E.hb hX hbl hbA hW.2.2 hin dL_law_878 ?_
  refine k_topi ex_1 ?_
  refine k_aload_n E hl 0 dL_law_879 rfl ?_
  refine k_iload E hl 4 dL_law_880 rfl ?_
  refine lv_iconst (v := (2 : Int32)) E.hx E.hb dL_law_882 ic_2 ?_
  refine lv_iadd E.hx E.hb dL_law_883 ?_
  obtain ⟨hin, hf⟩ := oI hf
  obtain ⟨x_2, ex_2, hf⟩ := oL hf
  refine va_sld E.hx E.hb hX hbl hbA hW.2.2 hin dL_law_884 ?_
  refine k_topi ex_2 ?_
  refine k_aload_n E hl 3 dL_law_885 rfl ?_
  obtain ⟨p3_3, r_4, hg, hf⟩ := ob2 hf
  refine k_callSXi (As := [.ref (a_p1 0), .int x_1, .int x_2, .ref (a_p3 0)]) (rest := []) (ws2 := fun u => (List.flatten [wMCo k a_p1 (a_p1in 0) (a_p1ou 0) (a_p1ru 0) (a_p1no 0) (a_p1fo 0) (a_p1rd 0) (a_p1pa 0) (svV sa_0 so_0) p1_0, wBytes k a_p1in 600 p1in_0, wBytes k a_p1ou 1024 p1ou_0, wRules k a_p1ru p1ru_0, wCourt k a_p1no p1no_0, wCourt k a_p1fo p1fo_0, wReader k a_p1rd (a_p1in 0) (a_p1fo 0) (a_p1rr 0) p1rd_0, wRules k a_p1rr p1rr_0, wPast k a_p1pa pp_0 p1pa_0, wModel k a_p2 p2_0, wJArr k a_p3 1 (u)] ++ savW k sa_0 so_0) ++ poolW k pp_0 p1pa_0.2) (c_L_fine n l k hN hx a_p1 a_p1in a_p1ou a_p1ru a_p1no a_p1fo a_p1rd a_p1pa a_p3 (svV sa_0 so_0) p1_0 p1no_0 1 p3_0 x_1 x_2 (p3_3, r_4) hg) E sw_178 rfl dL_law_886 rfl (posOf [1, 2, 2, 3, 12, 12, 1, 3, 2, 13, 1] [0, 4, 10]) hW hA hl rfl (law_map (ln := [1, 2, 2, 3, 12, 12, 1, 3, 2, 13, 1]) (is := [0, 4, 10]) (cs := [wMCo k a_p1 (a_p1in 0) (a_p1ou 0) (a_p1ru 0) (a_p1no 0) (a_p1fo 0) (a_p1rd 0) (a_p1pa 0) (svV sa_0 so_0) p1_0, wCourt k a_p1no p1no_0, wJArr k a_p3 1 p3_0]) (fl3 _ _ _) rfl (by decide) rfl) ⟨Nat.le_of_ble_eq_true rfl, Nat.le_of_ble_eq_true rfl⟩ ⟨by show _ ≤ 601024; omega, by show _ ≤ 7293034; omega⟩ (Nat.le_of_ble_eq_true rfl) rfl (fun _ => rfl) (fun u => law_put (ln := [1, 2, 2, 3, 12, 12, 1, 3, 2, 13, 1]) (is := [0, 4, 10]) (cs0 := [wMCo k a_p1 (a_p1in 0) (a_p1ou 0) (a_p1ru 0) (a_p1no 0) (a_p1fo 0) (a_p1rd 0) (a_p1pa 0) (svV sa_0 so_0) p1_0, wCourt k a_p1no p1no_0, wJArr k a_p3 1 p3_0]) (cs := [wMCo k a_p1 (a_p1in 0) (a_p1ou 0) (a_p1ru 0) (a_p1no 0) (a_p1fo 0) (a_p1rd 0) (a_p1pa 0) (svV sa_0 so_0) p1_0, wCourt k a_p1no p1no_0, wJArr k a_p3 1 (u)]) (fl3 _ _ _) rfl (by decide) rfl rfl) (fun r u H locs hp hW => ?_)
  cases hp
  have hW : WD k A s.heap ((List.flatten [wMCo k a_p1 (a_p1in 0) (a_p1ou 0) (a_p1ru 0) (a_p1no 0) (a_p1fo 0) (a_p1rd 0) (a_p1pa 0) (svV sa_0 so_0) p1_0, wBytes k a_p1in 600 p1in_0, wBytes k a_p1ou 1024 p1ou_0, wRules k a_p1ru p1ru_0, wCourt k a_p1no p1no_0, wCourt k a_p1fo p1fo_0, wReader k a_p1rd (a_p1in 0) (a_p1fo 0) (a_p1rr 0) p1rd_0, wRules k a_p1rr p1rr_0, wPast k a_p1pa pp_0 p1pa_0, wModel k a_p2 p2_0, wJArr k a_p3 1 p3_3] ++ savW k sa_0 so_0) ++ poolW k pp_0 p1pa_0.2) H locs := hW
  refine k_istore (lv' := [(5, .int r_4), (0, .ref b), (1, .ref (a_p1 0)), (2, .ref (a_p2 0)), (3, .ref (a_p3 0)), (4, .int v4)]) E rfl hl dL_law_889 (by decide) rfl (fun ls hl => ?_)
  refine k_aload_n E hl 3 dL_law_891 rfl ?_
  refine k_aload_n E hl 1 dL_law_892 rfl ?_
  refine k_iload E hl 5 dL_law_893 rfl ?_
  refine lv_iconst (v := (1 : Int32)) E.hx E.hb dL_law_895 ic_1 ?_
  refine lv_iadd E.hx E.hb dL_law_896 ?_
  obtain ⟨hin, hf⟩ := oI hf
  obtain ⟨x_5, ex_5, hf⟩ := oL hf
  refine va_sld E.hx E.hb hX hbl hbA hW.2.2 hin dL_law_897 ?_
  refine k_topi ex_5 ?_
  refine k_aload_n E hl 1 dL_law_898 rfl ?_
  refine k_iload E hl 5 dL_law_899 rfl ?_
  refine lv_iconst (v := (2 : Int32)) E.hx E.hb dL_law_901 ic_2 ?_
  refine lv_iadd E.hx E.hb dL_law_902 ?_
  obtain ⟨hin, hf⟩ := oI hf
  obtain ⟨x_6, ex_6, hf⟩ := oL hf
  refine va_sld E.hx E.hb hX hbl hbA hW.2.2 hin dL_law_903 ?_
  refine k_topi ex_6 ?_
  obtain ⟨p2_7, r_8, hg, hf⟩ := ob2 hf
  refine k_callVi (As := [.int x_5, .int x_6]) (rest := []) (ws2 := fun u => (List.flatten [wMCo k a_p1 (a_p1in 0) (a_p1ou 0) (a_p1ru 0) (a_p1no 0) (a_p1fo 0) (a_p1rd 0) (a_p1pa 0) (svV sa_0 so_0) p1_0, wBytes k a_p1in 600 p1in_0, wBytes k a_p1ou 1024 p1ou_0, wRules k a_p1ru p1ru_0, wCourt k a_p1no p1no_0, wCourt k a_p1fo p1fo_0, wReader k a_p1rd (a_p1in 0) (a_p1fo 0) (a_p1rr 0) p1rd_0, wRules k a_p1rr p1rr_0, wPast k a_p1pa pp_0 p1pa_0, wModel k a_p2 (u), wJArr k a_p3 1 p3_3] ++ savW k sa_0 so_0) ++ poolW k pp_0 p1pa_0.2) (c_X9_fine n l k a_p2 p2_0 x_5 x_6 (p2_7, r_8) hg) E vl_L_180 dL_law_904 rfl (posOf [1, 2, 2, 3, 12, 12, 1, 3, 2, 13, 1] [9]) 7 38 hW hA hl rfl (law_map (ln := [1, 2, 2, 3, 12, 12, 1, 3, 2, 13, 1]) (is := [9]) (cs := [wModel k a_p2 p2_0]) (fl1 _) rfl (by decide) rfl) rfl rfl ⟨Nat.le_of_ble_eq_true rfl, Nat.le_of_ble_eq_true rfl⟩ ⟨by show _ ≤ 601024; omega, by show _ ≤ 7293034; omega⟩ (Nat.le_of_ble_eq_true rfl) rfl (fun _ => rfl) (fun u => law_put (ln := [1, 2, 2, 3, 12, 12, 1, 3, 2, 13, 1]) (is := [9]) (cs0 := [wModel k a_p2 p2_0]) (cs := [wModel k a_p2 (u)]) (fl1 _) rfl (by decide) rfl rfl) (fun r u H locs hp hW => ?_)
  cases hp
  have hW : WD k A s.heap ((List.flatten [wMCo k a_p1 (a_p1in 0) (a_p1ou 0) (a_p1ru 0) (a_p1no 0) (a_p1fo 0) (a_p1rd 0) (a_p1pa 0) (svV sa_0 so_0) p1_0, wBytes k a_p1in 600 p1in_0, wBytes k a_p1ou 1024 p1ou_0, wRules k a_p1ru p1ru_0, wCourt k a_p1no p1no_0, wCourt k a_p1fo p1fo_0, wReader k a_p1rd (a_p1in 0) (a_p1fo 0) (a_p1rr 0) p1rd_0, wRules k a_p1rr p1rr_0, wPast k a_p1pa pp_0 p1pa_0, wModel k a_p2 p2_7, wJArr k a_p3 1 p3_3] ++ savW k sa_0 so_0) ++ poolW k pp_0 p1pa_0.2) H locs := hW
  refine k_istore (lv' := [(6, .int r_8), (5, .int r_4), (0, .ref b), (1, .ref (a_p1 0)), (2, .ref (a_p2 0)), (3, .ref (a_p3 0)), (4, .int v4)]) E rfl hl dL_law_907 (by decide) rfl (fun ls hl => ?_)
  refine k_aload_n E hl 4 dL_law_909 rfl ?_
  obtain ⟨r_9, hg, hf⟩ := ob hf
  refine k_callVi (As := []) (rest := []) (ws2 := fun u => (List.flatten [wMCo k a_p1 (a_p1in 0) (a_p1ou 0) (a_p1ru 0) (a_p1no 0) (a_p1fo 0) (a_p1rd 0) (a_p1pa 0) (svV sa_0 so_0) p1_0, wBytes k a_p1in 600 p1in_0, wBytes k a_p1ou 1024 p1ou_0, wRules k a_p1ru p1ru_0, wCourt k a_p1no p1no_0, wCourt k a_p1fo p1fo_0, wReader k a_p1rd (a_p1in 0) (a_p1fo 0) (a_p1rr 0) p1rd_0, wRules k a_p1rr p1rr_0, wPast k a_p1pa pp_0 p1pa_0, wModel k a_p2 p2_7, wJArr k a_p3 1 p3_3] ++ savW k sa_0 so_0) ++ poolW k pp_0 p1pa_0.2) (c_X9_thrown n l k a_p2 p2_7 r_9 hg) E vl_L_152 dL_law_910 rfl (posOf [1, 2, 2, 3, 12, 12, 1, 3, 2, 13, 1] [9]) 7 38 hW hA hl rfl (law_map (ln := [1, 2, 2, 3, 12, 12, 1, 3, 2, 13, 1]) (is := [9]) (cs := [wModel k a_p2 p2_7]) (fl1 _) rfl (by decide) rfl) rfl rfl ⟨Nat.le_of_ble_eq_true rfl, Nat.le_of_ble_eq_true rfl⟩ ⟨by show _ ≤ 601024; omega, by show _ ≤ 7293034; omega⟩ (Nat.le_of_ble_eq_true rfl) rfl (fun _ => rfl) (fun u => law_put (ln := [1, 2, 2, 3, 12, 12, 1, 3, 2, 13, 1]) (is := [9]) (cs0 := [wModel k a_p2 p2_7]) (cs := [wModel k a_p2 p2_7]) (fl1 _) rfl (by decide) rfl rfl) (fun r u H locs hp hW => ?_)
  cases hp
  have hW : WD k A s.heap ((List.flatten [wMCo k a_p1 (a_p1in 0) (a_p1ou 0) (a_p1ru 0) (a_p1no 0) (a_p1fo 0) (a_p1rd 0) (a_p1pa 0) (svV sa_0 so_0) p1_0, wBytes k a_p1in 600 p1in_0, wBytes k a_p1ou 1024 p1ou_0, wRules k a_p1ru p1ru_0, wCourt k a_p1no p1no_0, wCourt k a_p1fo p1fo_0, wReader k a_p1rd (a_p1in 0) (a_p1fo 0) (a_p1rr 0) p1rd_0, wRules k a_p1rr p1rr_0, wPast k a_p1pa pp_0 p1pa_0, wModel k a_p2 p2_7, wJArr k a_p3 1 p3_3] ++ savW k sa_0 so_0) ++ poolW k pp_0 p1pa_0.2) H locs := hW
  refine k_iload E hl 1 dL_law_913 rfl ?_
  refine lv_icmp_eq (tgt := 920) E.hx E.hb dL_law_915 (by decide) (fun hc => ?_) (fun hc => ?_)
  · have hf := oT hc hf
    refine k_iload E hl 1 dL_law_920 rfl ?_
    refine lv_if_ne (tgt := 937) E.hx E.hb dL_law_922 (by decide) (fun hc => ?_) (fun hc => ?_)
    · have hf := oF hc hf
      refine lv_goto (tgt := 2474) E.hx E.hb dL_law_937 (by decide) ?_
      exact hgo pp_0 sa_0 _ _ _ _ _ (by omega) (by omega) (by cases hf; exact hW) (lv_sub hl [2, 3, 4, 5, 6] rfl)
    · have hf := oT hc hf
      refine k_aload_n E hl 5 dL_law_925 rfl ?_
      refine lv_iconst (v := (0 : Int32)) E.hx E.hb dL_law_926 ic_0 ?_
      obtain ⟨hin, hf⟩ := oI hf
      obtain ⟨x_10, ex_10, hf⟩ := oL hf
      refine k_lald E hW 51 rfl hin dL_law_927 ?_
      refine k_topl ex_10 ?_
      refine k_iload E hl 0 dL_law_928 rfl ?_
      refine lv_i2l (v := (r_8).toInt64) E.hx E.hb dL_law_930 rfl ?_
      refine W.lcmp E.hx E.hb dL_law_931 ?_
      refine lv_if_eq (tgt := 937) E.hx E.hb dL_law_932 (by decide) (fun hc => ?_) (fun hc => ?_)
      · have hf := oT hc hf
        refine lv_goto (tgt := 2474) E.hx E.hb dL_law_937 (by decide) ?_
        exact hgo pp_0 sa_0 _ _ _ _ _ (by omega) (by omega) (by cases hf; exact hW) (lv_sub hl [2, 3, 4, 5, 6] rfl)
      · have hf := oF hc hf
        refine lv_iconst (v := (0 : Int32)) E.hx E.hb dL_law_935 ic_0 ?_
        exact o0 hf
  · have hf := oF hc hf
    refine lv_iconst (v := (0 : Int32)) E.hx E.hb dL_law_918 ic_0 ?_
    exact o0 hf
