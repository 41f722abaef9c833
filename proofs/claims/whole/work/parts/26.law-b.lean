theorem tm_970 : (Jvm.Cond.methodLink "MemoryCourtLaw" (181 : Nat) ({ cls := "MemoryCourtLaw", name := "evidence", desc := "(LMemoryCourt;I[J)I" } : Jvm.MethodName)) ∈ lw_tbl := List.mem_of_getElem? (i := 970) (by decide +kernel)
theorem tm_971 : (Jvm.Cond.static ({ cls := "MemoryCourtLaw", name := "evidence", desc := "(LMemoryCourt;I[J)I" } : Jvm.MethodName)) ∈ lw_tbl := List.mem_of_getElem? (i := 971) (by decide +kernel)
theorem tm_972 : (Jvm.Cond.codeWith ({ cls := "MemoryCourtLaw", name := "evidence", desc := "(LMemoryCourt;I[J)I" } : Jvm.MethodName) method_11_code (4 : Nat) (Option.some Jvm.ClassFile.FieldType.int) [((0 : Nat), (9 : Nat), (12 : Nat), (25 : Nat))]) ∈ lw_tbl := List.mem_of_getElem? (i := 972) (by decide +kernel)
theorem tm_1739 : (Jvm.Cond.methodLink "MemoryCourtLaw" (183 : Nat) ({ cls := "MemoryCourtModel", name := "evidence", desc := "(I)I" } : Jvm.MethodName)) ∈ lw_tbl := List.mem_of_getElem? (i := 1739) (by decide +kernel)
theorem tm_1740 : (Jvm.Cond.instanceMethod ({ cls := "MemoryCourtModel", name := "evidence", desc := "(I)I" } : Jvm.MethodName)) ∈ lw_tbl := List.mem_of_getElem? (i := 1740) (by decide +kernel)
theorem tm_1741 : (Jvm.Cond.selects "MemoryCourtModel" ({ cls := "MemoryCourtModel", name := "evidence", desc := "(I)I" } : Jvm.MethodName) ({ cls := "MemoryCourtModel", name := "evidence", desc := "(I)I" } : Jvm.MethodName)) ∈ lw_tbl := List.mem_of_getElem? (i := 1741) (by decide +kernel)
theorem tm_1742 : (Jvm.Cond.code ({ cls := "MemoryCourtModel", name := "evidence", desc := "(I)I" } : Jvm.MethodName) prog_11_method_82_code (2 : Nat) (Option.some Jvm.ClassFile.FieldType.int)) ∈ lw_tbl := List.mem_of_getElem? (i := 1742) (by decide +kernel)
theorem tm_986 : (Jvm.Cond.methodLink "MemoryCourtLaw" (184 : Nat) ({ cls := "MemoryCourtLaw", name := "wasStalled", desc := "(LMemoryCourt;II[J)I" } : Jvm.MethodName)) ∈ lw_tbl := List.mem_of_getElem? (i := 986) (by decide +kernel)
theorem tm_987 : (Jvm.Cond.static ({ cls := "MemoryCourtLaw", name := "wasStalled", desc := "(LMemoryCourt;II[J)I" } : Jvm.MethodName)) ∈ lw_tbl := List.mem_of_getElem? (i := 987) (by decide +kernel)
theorem tm_988 : (Jvm.Cond.codeWith ({ cls := "MemoryCourtLaw", name := "wasStalled", desc := "(LMemoryCourt;II[J)I" } : Jvm.MethodName) method_12_code (5 : Nat) (Option.some Jvm.ClassFile.FieldType.int) [((0 : Nat), (17 : Nat), (20 : Nat), (13 : Nat))]) ∈ lw_tbl := List.mem_of_getElem? (i := 988) (by decide +kernel)
theorem tm_1743 : (Jvm.Cond.methodLink "MemoryCourtLaw" (186 : Nat) ({ cls := "MemoryCourtModel", name := "wasStalled", desc := "(II)Z" } : Jvm.MethodName)) ∈ lw_tbl := List.mem_of_getElem? (i := 1743) (by decide +kernel)
theorem tm_1744 : (Jvm.Cond.instanceMethod ({ cls := "MemoryCourtModel", name := "wasStalled", desc := "(II)Z" } : Jvm.MethodName)) ∈ lw_tbl := List.mem_of_getElem? (i := 1744) (by decide +kernel)
theorem tm_1745 : (Jvm.Cond.selects "MemoryCourtModel" ({ cls := "MemoryCourtModel", name := "wasStalled", desc := "(II)Z" } : Jvm.MethodName) ({ cls := "MemoryCourtModel", name := "wasStalled", desc := "(II)Z" } : Jvm.MethodName)) ∈ lw_tbl := List.mem_of_getElem? (i := 1745) (by decide +kernel)
theorem tm_1746 : (Jvm.Cond.code ({ cls := "MemoryCourtModel", name := "wasStalled", desc := "(II)Z" } : Jvm.MethodName) prog_11_method_83_code (3 : Nat) (Option.some Jvm.ClassFile.FieldType.boolean)) ∈ lw_tbl := List.mem_of_getElem? (i := 1746) (by decide +kernel)
theorem tm_683 : (Jvm.Cond.methodLink "MemoryCourtLaw" (187 : Nat) ({ cls := "MemoryCourt", name := "nextHearing", desc := "()I" } : Jvm.MethodName)) ∈ lw_tbl := List.mem_of_getElem? (i := 683) (by decide +kernel)
theorem tm_1747 : (Jvm.Cond.methodLink "MemoryCourtLaw" (190 : Nat) ({ cls := "MemoryCourtModel", name := "nextHearing", desc := "()I" } : Jvm.MethodName)) ∈ lw_tbl := List.mem_of_getElem? (i := 1747) (by decide +kernel)
theorem tm_1748 : (Jvm.Cond.instanceMethod ({ cls := "MemoryCourtModel", name := "nextHearing", desc := "()I" } : Jvm.MethodName)) ∈ lw_tbl := List.mem_of_getElem? (i := 1748) (by decide +kernel)
theorem tm_1749 : (Jvm.Cond.selects "MemoryCourtModel" ({ cls := "MemoryCourtModel", name := "nextHearing", desc := "()I" } : Jvm.MethodName) ({ cls := "MemoryCourtModel", name := "nextHearing", desc := "()I" } : Jvm.MethodName)) ∈ lw_tbl := List.mem_of_getElem? (i := 1749) (by decide +kernel)
theorem tm_1750 : (Jvm.Cond.code ({ cls := "MemoryCourtModel", name := "nextHearing", desc := "()I" } : Jvm.MethodName) prog_11_method_84_code (1 : Nat) (Option.some Jvm.ClassFile.FieldType.int)) ∈ lw_tbl := List.mem_of_getElem? (i := 1750) (by decide +kernel)
theorem tm_691 : (Jvm.Cond.methodLink "MemoryCourtLaw" (191 : Nat) ({ cls := "MemoryCourt", name := "shortage", desc := "()I" } : Jvm.MethodName)) ∈ lw_tbl := List.mem_of_getElem? (i := 691) (by decide +kernel)
theorem tm_692 : (Jvm.Cond.instanceMethod ({ cls := "MemoryCourt", name := "shortage", desc := "()I" } : Jvm.MethodName)) ∈ lw_tbl := List.mem_of_getElem? (i := 692) (by decide +kernel)
theorem tm_693 : (Jvm.Cond.selects "MemoryCourt" ({ cls := "MemoryCourt", name := "shortage", desc := "()I" } : Jvm.MethodName) ({ cls := "MemoryCourt", name := "shortage", desc := "()I" } : Jvm.MethodName)) ∈ lw_tbl := List.mem_of_getElem? (i := 693) (by decide +kernel)
theorem tm_694 : (Jvm.Cond.code ({ cls := "MemoryCourt", name := "shortage", desc := "()I" } : Jvm.MethodName) prog_1_method_21_code (1 : Nat) (Option.some Jvm.ClassFile.FieldType.int)) ∈ lw_tbl := List.mem_of_getElem? (i := 694) (by decide +kernel)
theorem tm_1755 : (Jvm.Cond.methodLink "MemoryCourtLaw" (194 : Nat) ({ cls := "MemoryCourtModel", name := "shortage", desc := "()I" } : Jvm.MethodName)) ∈ lw_tbl := List.mem_of_getElem? (i := 1755) (by decide +kernel)
theorem tm_1756 : (Jvm.Cond.instanceMethod ({ cls := "MemoryCourtModel", name := "shortage", desc := "()I" } : Jvm.MethodName)) ∈ lw_tbl := List.mem_of_getElem? (i := 1756) (by decide +kernel)
theorem tm_1757 : (Jvm.Cond.selects "MemoryCourtModel" ({ cls := "MemoryCourtModel", name := "shortage", desc := "()I" } : Jvm.MethodName) ({ cls := "MemoryCourtModel", name := "shortage", desc := "()I" } : Jvm.MethodName)) ∈ lw_tbl := List.mem_of_getElem? (i := 1757) (by decide +kernel)
theorem tm_1758 : (Jvm.Cond.code ({ cls := "MemoryCourtModel", name := "shortage", desc := "()I" } : Jvm.MethodName) prog_11_method_85_code (3 : Nat) (Option.some Jvm.ClassFile.FieldType.int)) ∈ lw_tbl := List.mem_of_getElem? (i := 1758) (by decide +kernel)
theorem tm_704 : (Jvm.Cond.methodLink "MemoryCourtLaw" (195 : Nat) ({ cls := "MemoryCourt", name := "overdue", desc := "()I" } : Jvm.MethodName)) ∈ lw_tbl := List.mem_of_getElem? (i := 704) (by decide +kernel)
theorem tm_705 : (Jvm.Cond.instanceMethod ({ cls := "MemoryCourt", name := "overdue", desc := "()I" } : Jvm.MethodName)) ∈ lw_tbl := List.mem_of_getElem? (i := 705) (by decide +kernel)
theorem tm_706 : (Jvm.Cond.selects "MemoryCourt" ({ cls := "MemoryCourt", name := "overdue", desc := "()I" } : Jvm.MethodName) ({ cls := "MemoryCourt", name := "overdue", desc := "()I" } : Jvm.MethodName)) ∈ lw_tbl := List.mem_of_getElem? (i := 706) (by decide +kernel)
theorem tm_707 : (Jvm.Cond.code ({ cls := "MemoryCourt", name := "overdue", desc := "()I" } : Jvm.MethodName) prog_1_method_22_code (1 : Nat) (Option.some Jvm.ClassFile.FieldType.int)) ∈ lw_tbl := List.mem_of_getElem? (i := 707) (by decide +kernel)
theorem tm_1759 : (Jvm.Cond.methodLink "MemoryCourtLaw" (198 : Nat) ({ cls := "MemoryCourtModel", name := "overdue", desc := "()I" } : Jvm.MethodName)) ∈ lw_tbl := List.mem_of_getElem? (i := 1759) (by decide +kernel)
theorem tm_1760 : (Jvm.Cond.instanceMethod ({ cls := "MemoryCourtModel", name := "overdue", desc := "()I" } : Jvm.MethodName)) ∈ lw_tbl := List.mem_of_getElem? (i := 1760) (by decide +kernel)
theorem tm_1761 : (Jvm.Cond.selects "MemoryCourtModel" ({ cls := "MemoryCourtModel", name := "overdue", desc := "()I" } : Jvm.MethodName) ({ cls := "MemoryCourtModel", name := "overdue", desc := "()I" } : Jvm.MethodName)) ∈ lw_tbl := List.mem_of_getElem? (i := 1761) (by decide +kernel)
theorem tm_1762 : (Jvm.Cond.code ({ cls := "MemoryCourtModel", name := "overdue", desc := "()I" } : Jvm.MethodName) prog_11_method_86_code (1 : Nat) (Option.some Jvm.ClassFile.FieldType.int)) ∈ lw_tbl := List.mem_of_getElem? (i := 1762) (by decide +kernel)
theorem tm_712 : (Jvm.Cond.methodLink "MemoryCourtLaw" (199 : Nat) ({ cls := "MemoryCourt", name := "firstBroken", desc := "()I" } : Jvm.MethodName)) ∈ lw_tbl := List.mem_of_getElem? (i := 712) (by decide +kernel)
theorem tm_713 : (Jvm.Cond.instanceMethod ({ cls := "MemoryCourt", name := "firstBroken", desc := "()I" } : Jvm.MethodName)) ∈ lw_tbl := List.mem_of_getElem? (i := 713) (by decide +kernel)
theorem tm_714 : (Jvm.Cond.selects "MemoryCourt" ({ cls := "MemoryCourt", name := "firstBroken", desc := "()I" } : Jvm.MethodName) ({ cls := "MemoryCourt", name := "firstBroken", desc := "()I" } : Jvm.MethodName)) ∈ lw_tbl := List.mem_of_getElem? (i := 714) (by decide +kernel)
theorem tm_715 : (Jvm.Cond.code ({ cls := "MemoryCourt", name := "firstBroken", desc := "()I" } : Jvm.MethodName) prog_1_method_23_code (1 : Nat) (Option.some Jvm.ClassFile.FieldType.int)) ∈ lw_tbl := List.mem_of_getElem? (i := 715) (by decide +kernel)
theorem tm_1763 : (Jvm.Cond.methodLink "MemoryCourtLaw" (202 : Nat) ({ cls := "MemoryCourtModel", name := "firstBroken", desc := "()I" } : Jvm.MethodName)) ∈ lw_tbl := List.mem_of_getElem? (i := 1763) (by decide +kernel)
theorem tm_1764 : (Jvm.Cond.instanceMethod ({ cls := "MemoryCourtModel", name := "firstBroken", desc := "()I" } : Jvm.MethodName)) ∈ lw_tbl := List.mem_of_getElem? (i := 1764) (by decide +kernel)
theorem tm_1765 : (Jvm.Cond.selects "MemoryCourtModel" ({ cls := "MemoryCourtModel", name := "firstBroken", desc := "()I" } : Jvm.MethodName) ({ cls := "MemoryCourtModel", name := "firstBroken", desc := "()I" } : Jvm.MethodName)) ∈ lw_tbl := List.mem_of_getElem? (i := 1765) (by decide +kernel)
theorem tm_1766 : (Jvm.Cond.code ({ cls := "MemoryCourtModel", name := "firstBroken", desc := "()I" } : Jvm.MethodName) prog_11_method_87_code (1 : Nat) (Option.some Jvm.ClassFile.FieldType.int)) ∈ lw_tbl := List.mem_of_getElem? (i := 1766) (by decide +kernel)
theorem tm_720 : (Jvm.Cond.methodLink "MemoryCourtLaw" (203 : Nat) ({ cls := "MemoryCourt", name := "worst", desc := "()I" } : Jvm.MethodName)) ∈ lw_tbl := List.mem_of_getElem? (i := 720) (by decide +kernel)
theorem tm_721 : (Jvm.Cond.instanceMethod ({ cls := "MemoryCourt", name := "worst", desc := "()I" } : Jvm.MethodName)) ∈ lw_tbl := List.mem_of_getElem? (i := 721) (by decide +kernel)
theorem tm_722 : (Jvm.Cond.selects "MemoryCourt" ({ cls := "MemoryCourt", name := "worst", desc := "()I" } : Jvm.MethodName) ({ cls := "MemoryCourt", name := "worst", desc := "()I" } : Jvm.MethodName)) ∈ lw_tbl := List.mem_of_getElem? (i := 722) (by decide +kernel)
theorem tm_723 : (Jvm.Cond.code ({ cls := "MemoryCourt", name := "worst", desc := "()I" } : Jvm.MethodName) prog_1_method_24_code (1 : Nat) (Option.some Jvm.ClassFile.FieldType.int)) ∈ lw_tbl := List.mem_of_getElem? (i := 723) (by decide +kernel)
theorem tm_1767 : (Jvm.Cond.methodLink "MemoryCourtLaw" (206 : Nat) ({ cls := "MemoryCourtModel", name := "worst", desc := "()I" } : Jvm.MethodName)) ∈ lw_tbl := List.mem_of_getElem? (i := 1767) (by decide +kernel)
theorem tm_1768 : (Jvm.Cond.instanceMethod ({ cls := "MemoryCourtModel", name := "worst", desc := "()I" } : Jvm.MethodName)) ∈ lw_tbl := List.mem_of_getElem? (i := 1768) (by decide +kernel)
theorem tm_1769 : (Jvm.Cond.selects "MemoryCourtModel" ({ cls := "MemoryCourtModel", name := "worst", desc := "()I" } : Jvm.MethodName) ({ cls := "MemoryCourtModel", name := "worst", desc := "()I" } : Jvm.MethodName)) ∈ lw_tbl := List.mem_of_getElem? (i := 1769) (by decide +kernel)
theorem tm_1770 : (Jvm.Cond.code ({ cls := "MemoryCourtModel", name := "worst", desc := "()I" } : Jvm.MethodName) prog_11_method_88_code (3 : Nat) (Option.some Jvm.ClassFile.FieldType.int)) ∈ lw_tbl := List.mem_of_getElem? (i := 1770) (by decide +kernel)
theorem tm_728 : (Jvm.Cond.methodLink "MemoryCourtLaw" (207 : Nat) ({ cls := "MemoryCourt", name := "meanLate", desc := "()D" } : Jvm.MethodName)) ∈ lw_tbl := List.mem_of_getElem? (i := 728) (by decide +kernel)
theorem tm_729 : (Jvm.Cond.instanceMethod ({ cls := "MemoryCourt", name := "meanLate", desc := "()D" } : Jvm.MethodName)) ∈ lw_tbl := List.mem_of_getElem? (i := 729) (by decide +kernel)
theorem tm_730 : (Jvm.Cond.selects "MemoryCourt" ({ cls := "MemoryCourt", name := "meanLate", desc := "()D" } : Jvm.MethodName) ({ cls := "MemoryCourt", name := "meanLate", desc := "()D" } : Jvm.MethodName)) ∈ lw_tbl := List.mem_of_getElem? (i := 730) (by decide +kernel)
theorem tm_731 : (Jvm.Cond.code ({ cls := "MemoryCourt", name := "meanLate", desc := "()D" } : Jvm.MethodName) prog_1_method_25_code (2 : Nat) (Option.some Jvm.ClassFile.FieldType.double)) ∈ lw_tbl := List.mem_of_getElem? (i := 731) (by decide +kernel)
theorem tm_1771 : (Jvm.Cond.methodLink "MemoryCourtLaw" (211 : Nat) ({ cls := "MemoryCourtModel", name := "meanLate", desc := "()D" } : Jvm.MethodName)) ∈ lw_tbl := List.mem_of_getElem? (i := 1771) (by decide +kernel)
theorem tm_1772 : (Jvm.Cond.instanceMethod ({ cls := "MemoryCourtModel", name := "meanLate", desc := "()D" } : Jvm.MethodName)) ∈ lw_tbl := List.mem_of_getElem? (i := 1772) (by decide +kernel)
theorem tm_1773 : (Jvm.Cond.selects "MemoryCourtModel" ({ cls := "MemoryCourtModel", name := "meanLate", desc := "()D" } : Jvm.MethodName) ({ cls := "MemoryCourtModel", name := "meanLate", desc := "()D" } : Jvm.MethodName)) ∈ lw_tbl := List.mem_of_getElem? (i := 1773) (by decide +kernel)
theorem tm_1774 : (Jvm.Cond.code ({ cls := "MemoryCourtModel", name := "meanLate", desc := "()D" } : Jvm.MethodName) prog_11_method_89_code (4 : Nat) (Option.some Jvm.ClassFile.FieldType.double)) ∈ lw_tbl := List.mem_of_getElem? (i := 1774) (by decide +kernel)
theorem tm_736 : (Jvm.Cond.methodLink "MemoryCourtLaw" (212 : Nat) ({ cls := "MemoryCourt", name := "metShare", desc := "()F" } : Jvm.MethodName)) ∈ lw_tbl := List.mem_of_getElem? (i := 736) (by decide +kernel)
theorem tm_737 : (Jvm.Cond.instanceMethod ({ cls := "MemoryCourt", name := "metShare", desc := "()F" } : Jvm.MethodName)) ∈ lw_tbl := List.mem_of_getElem? (i := 737) (by decide +kernel)
theorem tm_738 : (Jvm.Cond.selects "MemoryCourt" ({ cls := "MemoryCourt", name := "metShare", desc := "()F" } : Jvm.MethodName) ({ cls := "MemoryCourt", name := "metShare", desc := "()F" } : Jvm.MethodName)) ∈ lw_tbl := List.mem_of_getElem? (i := 738) (by decide +kernel)
theorem tm_739 : (Jvm.Cond.code ({ cls := "MemoryCourt", name := "metShare", desc := "()F" } : Jvm.MethodName) prog_1_method_26_code (3 : Nat) (Option.some Jvm.ClassFile.FieldType.float)) ∈ lw_tbl := List.mem_of_getElem? (i := 739) (by decide +kernel)
theorem tm_1775 : (Jvm.Cond.methodLink "MemoryCourtLaw" (216 : Nat) ({ cls := "MemoryCourtModel", name := "metShare", desc := "()F" } : Jvm.MethodName)) ∈ lw_tbl := List.mem_of_getElem? (i := 1775) (by decide +kernel)
theorem tm_1776 : (Jvm.Cond.instanceMethod ({ cls := "MemoryCourtModel", name := "metShare", desc := "()F" } : Jvm.MethodName)) ∈ lw_tbl := List.mem_of_getElem? (i := 1776) (by decide +kernel)
theorem tm_1777 : (Jvm.Cond.selects "MemoryCourtModel" ({ cls := "MemoryCourtModel", name := "metShare", desc := "()F" } : Jvm.MethodName) ({ cls := "MemoryCourtModel", name := "metShare", desc := "()F" } : Jvm.MethodName)) ∈ lw_tbl := List.mem_of_getElem? (i := 1777) (by decide +kernel)
theorem tm_1778 : (Jvm.Cond.code ({ cls := "MemoryCourtModel", name := "metShare", desc := "()F" } : Jvm.MethodName) prog_11_method_90_code (2 : Nat) (Option.some Jvm.ClassFile.FieldType.float)) ∈ lw_tbl := List.mem_of_getElem? (i := 1778) (by decide +kernel)
theorem tm_994 : (Jvm.Cond.methodLink "MemoryCourtLaw" (217 : Nat) ({ cls := "MemoryCourtLaw", name := "run", desc := "(LMemoryCourt;I[J)I" } : Jvm.MethodName)) ∈ lw_tbl := List.mem_of_getElem? (i := 994) (by decide +kernel)
theorem tm_995 : (Jvm.Cond.static ({ cls := "MemoryCourtLaw", name := "run", desc := "(LMemoryCourt;I[J)I" } : Jvm.MethodName)) ∈ lw_tbl := List.mem_of_getElem? (i := 995) (by decide +kernel)
theorem tm_996 : (Jvm.Cond.codeWith ({ cls := "MemoryCourtLaw", name := "run", desc := "(LMemoryCourt;I[J)I" } : Jvm.MethodName) method_13_code (4 : Nat) (Option.some Jvm.ClassFile.FieldType.int) [((0 : Nat), (9 : Nat), (12 : Nat), (39 : Nat)), ((0 : Nat), (9 : Nat), (15 : Nat), (51 : Nat))]) ∈ lw_tbl := List.mem_of_getElem? (i := 996) (by decide +kernel)
theorem tm_1462 : (Jvm.Cond.methodLink "MemoryCourtLaw" (219 : Nat) ({ cls := "MemoryCourtModel", name := "run", desc := "(I)I" } : Jvm.MethodName)) ∈ lw_tbl := List.mem_of_getElem? (i := 1462) (by decide +kernel)
theorem tm_1463 : (Jvm.Cond.instanceMethod ({ cls := "MemoryCourtModel", name := "run", desc := "(I)I" } : Jvm.MethodName)) ∈ lw_tbl := List.mem_of_getElem? (i := 1463) (by decide +kernel)
theorem tm_1464 : (Jvm.Cond.selects "MemoryCourtModel" ({ cls := "MemoryCourtModel", name := "run", desc := "(I)I" } : Jvm.MethodName) ({ cls := "MemoryCourtModel", name := "run", desc := "(I)I" } : Jvm.MethodName)) ∈ lw_tbl := List.mem_of_getElem? (i := 1464) (by decide +kernel)
theorem tm_1465 : (Jvm.Cond.code ({ cls := "MemoryCourtModel", name := "run", desc := "(I)I" } : Jvm.MethodName) prog_11_method_51_code (2 : Nat) (Option.some Jvm.ClassFile.FieldType.int)) ∈ lw_tbl := List.mem_of_getElem? (i := 1465) (by decide +kernel)
theorem tm_1090 : (Jvm.Cond.methodLink "MemoryCourtLaw" (220 : Nat) ({ cls := "MemoryCourtLaw", name := "ask", desc := "(LMemoryCourt;III[J)I" } : Jvm.MethodName)) ∈ lw_tbl := List.mem_of_getElem? (i := 1090) (by decide +kernel)
theorem tm_1091 : (Jvm.Cond.static ({ cls := "MemoryCourtLaw", name := "ask", desc := "(LMemoryCourt;III[J)I" } : Jvm.MethodName)) ∈ lw_tbl := List.mem_of_getElem? (i := 1091) (by decide +kernel)
theorem tm_1092 : (Jvm.Cond.codeWith ({ cls := "MemoryCourtLaw", name := "ask", desc := "(LMemoryCourt;III[J)I" } : Jvm.MethodName) method_14_code (6 : Nat) (Option.some Jvm.ClassFile.FieldType.int) [((0 : Nat), (12 : Nat), (15 : Nat), (13 : Nat)), ((0 : Nat), (12 : Nat), (19 : Nat), (39 : Nat)), ((0 : Nat), (12 : Nat), (23 : Nat), (51 : Nat))]) ∈ lw_tbl := List.mem_of_getElem? (i := 1092) (by decide +kernel)
theorem tm_1592 : (Jvm.Cond.methodLink "MemoryCourtLaw" (223 : Nat) ({ cls := "MemoryCourtModel", name := "ask", desc := "(III)I" } : Jvm.MethodName)) ∈ lw_tbl := List.mem_of_getElem? (i := 1592) (by decide +kernel)
theorem tm_1593 : (Jvm.Cond.instanceMethod ({ cls := "MemoryCourtModel", name := "ask", desc := "(III)I" } : Jvm.MethodName)) ∈ lw_tbl := List.mem_of_getElem? (i := 1593) (by decide +kernel)
theorem tm_1594 : (Jvm.Cond.selects "MemoryCourtModel" ({ cls := "MemoryCourtModel", name := "ask", desc := "(III)I" } : Jvm.MethodName) ({ cls := "MemoryCourtModel", name := "ask", desc := "(III)I" } : Jvm.MethodName)) ∈ lw_tbl := List.mem_of_getElem? (i := 1594) (by decide +kernel)
theorem tm_1595 : (Jvm.Cond.code ({ cls := "MemoryCourtModel", name := "ask", desc := "(III)I" } : Jvm.MethodName) prog_11_method_52_code (4 : Nat) (Option.some Jvm.ClassFile.FieldType.int)) ∈ lw_tbl := List.mem_of_getElem? (i := 1595) (by decide +kernel)
theorem tm_1100 : (Jvm.Cond.methodLink "MemoryCourtLaw" (224 : Nat) ({ cls := "MemoryCourtLaw", name := "withdraw", desc := "(LMemoryCourt;I[J)I" } : Jvm.MethodName)) ∈ lw_tbl := List.mem_of_getElem? (i := 1100) (by decide +kernel)
theorem tm_1101 : (Jvm.Cond.static ({ cls := "MemoryCourtLaw", name := "withdraw", desc := "(LMemoryCourt;I[J)I" } : Jvm.MethodName)) ∈ lw_tbl := List.mem_of_getElem? (i := 1101) (by decide +kernel)
theorem tm_1102 : (Jvm.Cond.codeWith ({ cls := "MemoryCourtLaw", name := "withdraw", desc := "(LMemoryCourt;I[J)I" } : Jvm.MethodName) method_15_code (4 : Nat) (Option.some Jvm.ClassFile.FieldType.int) [((0 : Nat), (9 : Nat), (12 : Nat), (13 : Nat)), ((0 : Nat), (9 : Nat), (15 : Nat), (51 : Nat))]) ∈ lw_tbl := List.mem_of_getElem? (i := 1102) (by decide +kernel)
theorem tm_1604 : (Jvm.Cond.methodLink "MemoryCourtLaw" (226 : Nat) ({ cls := "MemoryCourtModel", name := "withdraw", desc := "(I)I" } : Jvm.MethodName)) ∈ lw_tbl := List.mem_of_getElem? (i := 1604) (by decide +kernel)
theorem tm_1605 : (Jvm.Cond.instanceMethod ({ cls := "MemoryCourtModel", name := "withdraw", desc := "(I)I" } : Jvm.MethodName)) ∈ lw_tbl := List.mem_of_getElem? (i := 1605) (by decide +kernel)
theorem tm_1606 : (Jvm.Cond.selects "MemoryCourtModel" ({ cls := "MemoryCourtModel", name := "withdraw", desc := "(I)I" } : Jvm.MethodName) ({ cls := "MemoryCourtModel", name := "withdraw", desc := "(I)I" } : Jvm.MethodName)) ∈ lw_tbl := List.mem_of_getElem? (i := 1606) (by decide +kernel)
theorem tm_1607 : (Jvm.Cond.code ({ cls := "MemoryCourtModel", name := "withdraw", desc := "(I)I" } : Jvm.MethodName) prog_11_method_53_code (2 : Nat) (Option.some Jvm.ClassFile.FieldType.int)) ∈ lw_tbl := List.mem_of_getElem? (i := 1607) (by decide +kernel)
theorem tm_1110 : (Jvm.Cond.methodLink "MemoryCourtLaw" (227 : Nat) ({ cls := "MemoryCourtLaw", name := "giveBack", desc := "(LMemoryCourt;II[J)I" } : Jvm.MethodName)) ∈ lw_tbl := List.mem_of_getElem? (i := 1110) (by decide +kernel)
theorem tm_1111 : (Jvm.Cond.static ({ cls := "MemoryCourtLaw", name := "giveBack", desc := "(LMemoryCourt;II[J)I" } : Jvm.MethodName)) ∈ lw_tbl := List.mem_of_getElem? (i := 1111) (by decide +kernel)
theorem tm_1112 : (Jvm.Cond.codeWith ({ cls := "MemoryCourtLaw", name := "giveBack", desc := "(LMemoryCourt;II[J)I" } : Jvm.MethodName) method_16_code (5 : Nat) (Option.some Jvm.ClassFile.FieldType.int) [((0 : Nat), (10 : Nat), (13 : Nat), (13 : Nat)), ((0 : Nat), (10 : Nat), (17 : Nat), (39 : Nat))]) ∈ lw_tbl := List.mem_of_getElem? (i := 1112) (by decide +kernel)
theorem tm_1612 : (Jvm.Cond.methodLink "MemoryCourtLaw" (229 : Nat) ({ cls := "MemoryCourtModel", name := "giveBack", desc := "(II)I" } : Jvm.MethodName)) ∈ lw_tbl := List.mem_of_getElem? (i := 1612) (by decide +kernel)
theorem tm_1613 : (Jvm.Cond.instanceMethod ({ cls := "MemoryCourtModel", name := "giveBack", desc := "(II)I" } : Jvm.MethodName)) ∈ lw_tbl := List.mem_of_getElem? (i := 1613) (by decide +kernel)
theorem tm_1614 : (Jvm.Cond.selects "MemoryCourtModel" ({ cls := "MemoryCourtModel", name := "giveBack", desc := "(II)I" } : Jvm.MethodName) ({ cls := "MemoryCourtModel", name := "giveBack", desc := "(II)I" } : Jvm.MethodName)) ∈ lw_tbl := List.mem_of_getElem? (i := 1614) (by decide +kernel)
theorem tm_1615 : (Jvm.Cond.code ({ cls := "MemoryCourtModel", name := "giveBack", desc := "(II)I" } : Jvm.MethodName) prog_11_method_54_code (3 : Nat) (Option.some Jvm.ClassFile.FieldType.int)) ∈ lw_tbl := List.mem_of_getElem? (i := 1615) (by decide +kernel)
theorem tm_1119 : (Jvm.Cond.methodLink "MemoryCourtLaw" (230 : Nat) ({ cls := "MemoryCourtLaw", name := "renew", desc := "(LMemoryCourt;II[J)I" } : Jvm.MethodName)) ∈ lw_tbl := List.mem_of_getElem? (i := 1119) (by decide +kernel)
theorem tm_1120 : (Jvm.Cond.static ({ cls := "MemoryCourtLaw", name := "renew", desc := "(LMemoryCourt;II[J)I" } : Jvm.MethodName)) ∈ lw_tbl := List.mem_of_getElem? (i := 1120) (by decide +kernel)
theorem tm_1121 : (Jvm.Cond.codeWith ({ cls := "MemoryCourtLaw", name := "renew", desc := "(LMemoryCourt;II[J)I" } : Jvm.MethodName) method_17_code (5 : Nat) (Option.some Jvm.ClassFile.FieldType.int) [((0 : Nat), (10 : Nat), (13 : Nat), (13 : Nat)), ((0 : Nat), (10 : Nat), (17 : Nat), (39 : Nat)), ((0 : Nat), (10 : Nat), (21 : Nat), (51 : Nat))]) ∈ lw_tbl := List.mem_of_getElem? (i := 1121) (by decide +kernel)
theorem tm_1620 : (Jvm.Cond.methodLink "MemoryCourtLaw" (232 : Nat) ({ cls := "MemoryCourtModel", name := "renew", desc := "(II)I" } : Jvm.MethodName)) ∈ lw_tbl := List.mem_of_getElem? (i := 1620) (by decide +kernel)
theorem tm_1621 : (Jvm.Cond.instanceMethod ({ cls := "MemoryCourtModel", name := "renew", desc := "(II)I" } : Jvm.MethodName)) ∈ lw_tbl := List.mem_of_getElem? (i := 1621) (by decide +kernel)
theorem tm_1622 : (Jvm.Cond.selects "MemoryCourtModel" ({ cls := "MemoryCourtModel", name := "renew", desc := "(II)I" } : Jvm.MethodName) ({ cls := "MemoryCourtModel", name := "renew", desc := "(II)I" } : Jvm.MethodName)) ∈ lw_tbl := List.mem_of_getElem? (i := 1622) (by decide +kernel)
theorem tm_1623 : (Jvm.Cond.code ({ cls := "MemoryCourtModel", name := "renew", desc := "(II)I" } : Jvm.MethodName) prog_11_method_57_code (4 : Nat) (Option.some Jvm.ClassFile.FieldType.int)) ∈ lw_tbl := List.mem_of_getElem? (i := 1623) (by decide +kernel)
theorem tm_1133 : (Jvm.Cond.methodLink "MemoryCourtLaw" (233 : Nat) ({ cls := "MemoryCourtLaw", name := "stall", desc := "(LMemoryCourt;II[J)I" } : Jvm.MethodName)) ∈ lw_tbl := List.mem_of_getElem? (i := 1133) (by decide +kernel)
theorem tm_1134 : (Jvm.Cond.static ({ cls := "MemoryCourtLaw", name := "stall", desc := "(LMemoryCourt;II[J)I" } : Jvm.MethodName)) ∈ lw_tbl := List.mem_of_getElem? (i := 1134) (by decide +kernel)
theorem tm_1135 : (Jvm.Cond.codeWith ({ cls := "MemoryCourtLaw", name := "stall", desc := "(LMemoryCourt;II[J)I" } : Jvm.MethodName) method_18_code (5 : Nat) (Option.some Jvm.ClassFile.FieldType.int) [((0 : Nat), (10 : Nat), (13 : Nat), (13 : Nat)), ((0 : Nat), (10 : Nat), (17 : Nat), (39 : Nat))]) ∈ lw_tbl := List.mem_of_getElem? (i := 1135) (by decide +kernel)
theorem tm_1632 : (Jvm.Cond.methodLink "MemoryCourtLaw" (235 : Nat) ({ cls := "MemoryCourtModel", name := "stall", desc := "(II)I" } : Jvm.MethodName)) ∈ lw_tbl := List.mem_of_getElem? (i := 1632) (by decide +kernel)
theorem tm_1633 : (Jvm.Cond.instanceMethod ({ cls := "MemoryCourtModel", name := "stall", desc := "(II)I" } : Jvm.MethodName)) ∈ lw_tbl := List.mem_of_getElem? (i := 1633) (by decide +kernel)
theorem tm_1634 : (Jvm.Cond.selects "MemoryCourtModel" ({ cls := "MemoryCourtModel", name := "stall", desc := "(II)I" } : Jvm.MethodName) ({ cls := "MemoryCourtModel", name := "stall", desc := "(II)I" } : Jvm.MethodName)) ∈ lw_tbl := List.mem_of_getElem? (i := 1634) (by decide +kernel)
theorem tm_1635 : (Jvm.Cond.code ({ cls := "MemoryCourtModel", name := "stall", desc := "(II)I" } : Jvm.MethodName) prog_11_method_58_code (4 : Nat) (Option.some Jvm.ClassFile.FieldType.int)) ∈ lw_tbl := List.mem_of_getElem? (i := 1635) (by decide +kernel)
theorem tm_1140 : (Jvm.Cond.methodLink "MemoryCourtLaw" (236 : Nat) ({ cls := "MemoryCourtLaw", name := "appeal", desc := "(LMemoryCourt;I[J)I" } : Jvm.MethodName)) ∈ lw_tbl := List.mem_of_getElem? (i := 1140) (by decide +kernel)
theorem tm_1141 : (Jvm.Cond.static ({ cls := "MemoryCourtLaw", name := "appeal", desc := "(LMemoryCourt;I[J)I" } : Jvm.MethodName)) ∈ lw_tbl := List.mem_of_getElem? (i := 1141) (by decide +kernel)
theorem tm_1142 : (Jvm.Cond.codeWith ({ cls := "MemoryCourtLaw", name := "appeal", desc := "(LMemoryCourt;I[J)I" } : Jvm.MethodName) method_19_code (4 : Nat) (Option.some Jvm.ClassFile.FieldType.int) [((0 : Nat), (9 : Nat), (12 : Nat), (51 : Nat)), ((0 : Nat), (9 : Nat), (15 : Nat), (25 : Nat))]) ∈ lw_tbl := List.mem_of_getElem? (i := 1142) (by decide +kernel)
theorem tm_1636 : (Jvm.Cond.methodLink "MemoryCourtLaw" (238 : Nat) ({ cls := "MemoryCourtModel", name := "appeal", desc := "(I)I" } : Jvm.MethodName)) ∈ lw_tbl := List.mem_of_getElem? (i := 1636) (by decide +kernel)
theorem tm_1637 : (Jvm.Cond.instanceMethod ({ cls := "MemoryCourtModel", name := "appeal", desc := "(I)I" } : Jvm.MethodName)) ∈ lw_tbl := List.mem_of_getElem? (i := 1637) (by decide +kernel)
theorem tm_1638 : (Jvm.Cond.selects "MemoryCourtModel" ({ cls := "MemoryCourtModel", name := "appeal", desc := "(I)I" } : Jvm.MethodName) ({ cls := "MemoryCourtModel", name := "appeal", desc := "(I)I" } : Jvm.MethodName)) ∈ lw_tbl := List.mem_of_getElem? (i := 1638) (by decide +kernel)
theorem tm_1639 : (Jvm.Cond.code ({ cls := "MemoryCourtModel", name := "appeal", desc := "(I)I" } : Jvm.MethodName) prog_11_method_64_code (5 : Nat) (Option.some Jvm.ClassFile.FieldType.int)) ∈ lw_tbl := List.mem_of_getElem? (i := 1639) (by decide +kernel)
theorem sw_181 : SWL RL 181 yL_evidence cL_evidence 4 (some .int) [(0, 9, 12, 25)] 3 := ⟨⟨tm_970, tm_971, tm_107, tm_972⟩, by decide +kernel⟩
theorem vl_L_183 : VL RL 183 RX9 yX9_evidence cX9_evidence 2 (some .int) 1 := ⟨⟨tm_1739, tm_1740, tm_1741, tm_119, tm_1742⟩, by decide +kernel⟩
theorem sw_184 : SWL RL 184 yL_wasStalled cL_wasStalled 5 (some .int) [(0, 17, 20, 13)] 4 := ⟨⟨tm_986, tm_987, tm_107, tm_988⟩, by decide +kernel⟩
theorem vl_L_186 : VL RL 186 RX9 yX9_wasStalled cX9_wasStalled 3 (some .boolean) 2 := ⟨⟨tm_1743, tm_1744, tm_1745, tm_119, tm_1746⟩, by decide +kernel⟩
theorem vl_L_187 : VL RL 187 RX8 yX8_nextHearing cX8_nextHearing 1 (some .int) 0 := ⟨⟨tm_683, tm_684, tm_685, tm_108, tm_686⟩, by decide +kernel⟩
theorem vl_L_190 : VL RL 190 RX9 yX9_nextHearing cX9_nextHearing 1 (some .int) 0 := ⟨⟨tm_1747, tm_1748, tm_1749, tm_119, tm_1750⟩, by decide +kernel⟩
theorem vl_L_191 : VL RL 191 RX8 yX8_shortage cX8_shortage 1 (some .int) 0 := ⟨⟨tm_691, tm_692, tm_693, tm_108, tm_694⟩, by decide +kernel⟩
theorem vl_L_194 : VL RL 194 RX9 yX9_shortage cX9_shortage 3 (some .int) 0 := ⟨⟨tm_1755, tm_1756, tm_1757, tm_119, tm_1758⟩, by decide +kernel⟩
theorem vl_L_195 : VL RL 195 RX8 yX8_overdue cX8_overdue 1 (some .int) 0 := ⟨⟨tm_704, tm_705, tm_706, tm_108, tm_707⟩, by decide +kernel⟩
theorem vl_L_198 : VL RL 198 RX9 yX9_overdue cX9_overdue 1 (some .int) 0 := ⟨⟨tm_1759, tm_1760, tm_1761, tm_119, tm_1762⟩, by decide +kernel⟩
theorem vl_L_199 : VL RL 199 RX8 yX8_firstBroken cX8_firstBroken 1 (some .int) 0 := ⟨⟨tm_712, tm_713, tm_714, tm_108, tm_715⟩, by decide +kernel⟩
theorem vl_L_202 : VL RL 202 RX9 yX9_firstBroken cX9_firstBroken 1 (some .int) 0 := ⟨⟨tm_1763, tm_1764, tm_1765, tm_119, tm_1766⟩, by decide +kernel⟩
theorem vl_L_203 : VL RL 203 RX8 yX8_worst cX8_worst 1 (some .int) 0 := ⟨⟨tm_720, tm_721, tm_722, tm_108, tm_723⟩, by decide +kernel⟩
theorem vl_L_206 : VL RL 206 RX9 yX9_worst cX9_worst 3 (some .int) 0 := ⟨⟨tm_1767, tm_1768, tm_1769, tm_119, tm_1770⟩, by decide +kernel⟩
theorem vl_L_207 : VL RL 207 RX8 yX8_meanLate cX8_meanLate 2 (some .double) 0 := ⟨⟨tm_728, tm_729, tm_730, tm_108, tm_731⟩, by decide +kernel⟩
theorem vl_L_211 : VL RL 211 RX9 yX9_meanLate cX9_meanLate 4 (some .double) 0 := ⟨⟨tm_1771, tm_1772, tm_1773, tm_119, tm_1774⟩, by decide +kernel⟩
theorem vl_L_212 : VL RL 212 RX8 yX8_metShare cX8_metShare 3 (some .float) 0 := ⟨⟨tm_736, tm_737, tm_738, tm_108, tm_739⟩, by decide +kernel⟩
theorem vl_L_216 : VL RL 216 RX9 yX9_metShare cX9_metShare 2 (some .float) 0 := ⟨⟨tm_1775, tm_1776, tm_1777, tm_119, tm_1778⟩, by decide +kernel⟩
theorem sw_217 : SWL RL 217 yL_run cL_run 4 (some .int) [(0, 9, 12, 39), (0, 9, 15, 51)] 3 := ⟨⟨tm_994, tm_995, tm_107, tm_996⟩, by decide +kernel⟩
theorem vl_L_219 : VL RL 219 RX9 yX9_run cX9_run 2 (some .int) 1 := ⟨⟨tm_1462, tm_1463, tm_1464, tm_119, tm_1465⟩, by decide +kernel⟩
theorem sw_220 : SWL RL 220 yL_ask cL_ask 6 (some .int) [(0, 12, 15, 13), (0, 12, 19, 39), (0, 12, 23, 51)] 5 := ⟨⟨tm_1090, tm_1091, tm_107, tm_1092⟩, by decide +kernel⟩
theorem vl_L_223 : VL RL 223 RX9 yX9_ask cX9_ask 4 (some .int) 3 := ⟨⟨tm_1592, tm_1593, tm_1594, tm_119, tm_1595⟩, by decide +kernel⟩
theorem sw_224 : SWL RL 224 yL_withdraw cL_withdraw 4 (some .int) [(0, 9, 12, 13), (0, 9, 15, 51)] 3 := ⟨⟨tm_1100, tm_1101, tm_107, tm_1102⟩, by decide +kernel⟩
theorem vl_L_226 : VL RL 226 RX9 yX9_withdraw cX9_withdraw 2 (some .int) 1 := ⟨⟨tm_1604, tm_1605, tm_1606, tm_119, tm_1607⟩, by decide +kernel⟩
theorem sw_227 : SWL RL 227 yL_giveBack cL_giveBack 5 (some .int) [(0, 10, 13, 13), (0, 10, 17, 39)] 4 := ⟨⟨tm_1110, tm_1111, tm_107, tm_1112⟩, by decide +kernel⟩
theorem vl_L_229 : VL RL 229 RX9 yX9_giveBack cX9_giveBack 3 (some .int) 2 := ⟨⟨tm_1612, tm_1613, tm_1614, tm_119, tm_1615⟩, by decide +kernel⟩
theorem sw_230 : SWL RL 230 yL_renew cL_renew 5 (some .int) [(0, 10, 13, 13), (0, 10, 17, 39), (0, 10, 21, 51)] 4 := ⟨⟨tm_1119, tm_1120, tm_107, tm_1121⟩, by decide +kernel⟩
theorem vl_L_232 : VL RL 232 RX9 yX9_renew cX9_renew 4 (some .int) 2 := ⟨⟨tm_1620, tm_1621, tm_1622, tm_119, tm_1623⟩, by decide +kernel⟩
theorem sw_233 : SWL RL 233 yL_stall cL_stall 5 (some .int) [(0, 10, 13, 13), (0, 10, 17, 39)] 4 := ⟨⟨tm_1133, tm_1134, tm_107, tm_1135⟩, by decide +kernel⟩
theorem vl_L_235 : VL RL 235 RX9 yX9_stall cX9_stall 4 (some .int) 2 := ⟨⟨tm_1632, tm_1633, tm_1634, tm_119, tm_1635⟩, by decide +kernel⟩
theorem sw_236 : SWL RL 236 yL_appeal cL_appeal 4 (some .int) [(0, 9, 12, 51), (0, 9, 15, 25)] 3 := ⟨⟨tm_1140, tm_1141, tm_107, tm_1142⟩, by decide +kernel⟩
theorem vl_L_238 : VL RL 238 RX9 yX9_appeal cX9_appeal 5 (some .int) 1 := ⟨⟨tm_1636, tm_1637, tm_1638, tm_119, tm_1639⟩, by decide +kernel⟩
theorem dL_law_940 : decode cL_law 940 = .ok (.aload_n 1, 1) := by decide +kernel
theorem dL_law_941 : decode cL_law 941 = .ok (.aload_n 0, 1) := by decide +kernel
theorem dL_law_942 : decode cL_law 942 = .ok (.iload 4, 2) := by decide +kernel
theorem dL_law_944 : decode cL_law 944 = .ok (.iconst 1, 1) := by decide +kernel
theorem dL_law_945 : decode cL_law 945 = .ok (.iadd, 1) := by decide +kernel
theorem dL_law_946 : decode cL_law 946 = .ok (.iaload, 1) := by decide +kernel
theorem dL_law_947 : decode cL_law 947 = .ok (.aload_n 3, 1) := by decide +kernel
theorem dL_law_948 : decode cL_law 948 = .ok (.invokestatic 181, 3) := by decide +kernel
theorem dL_law_951 : decode cL_law 951 = .ok (.istore 5, 2) := by decide +kernel
theorem dL_law_953 : decode cL_law 953 = .ok (.aload_n 2, 1) := by decide +kernel
theorem dL_law_954 : decode cL_law 954 = .ok (.aload_n 0, 1) := by decide +kernel
theorem dL_law_955 : decode cL_law 955 = .ok (.iload 4, 2) := by decide +kernel
theorem dL_law_957 : decode cL_law 957 = .ok (.iconst 1, 1) := by decide +kernel
theorem dL_law_958 : decode cL_law 958 = .ok (.iadd, 1) := by decide +kernel
theorem dL_law_959 : decode cL_law 959 = .ok (.iaload, 1) := by decide +kernel
theorem dL_law_960 : decode cL_law 960 = .ok (.invokevirtual 183, 3) := by decide +kernel
theorem dL_law_963 : decode cL_law 963 = .ok (.istore 6, 2) := by decide +kernel
theorem dL_law_965 : decode cL_law 965 = .ok (.aload_n 2, 1) := by decide +kernel
theorem dL_law_966 : decode cL_law 966 = .ok (.invokevirtual 152, 3) := by decide +kernel
theorem dL_law_969 : decode cL_law 969 = .ok (.iload 5, 2) := by decide +kernel
theorem dL_law_971 : decode cL_law 971 = .ok (.if_icmp .eq 5, 3) := by decide +kernel
theorem dL_law_974 : decode cL_law 974 = .ok (.iconst 0, 1) := by decide +kernel
theorem dL_law_975 : decode cL_law 975 = .ok (.ireturn, 1) := by decide +kernel
theorem dL_law_976 : decode cL_law 976 = .ok (.iload 5, 2) := by decide +kernel
theorem dL_law_978 : decode cL_law 978 = .ok (.ifCond .ne 15, 3) := by decide +kernel
theorem dL_law_981 : decode cL_law 981 = .ok (.aload_n 3, 1) := by decide +kernel
theorem dL_law_982 : decode cL_law 982 = .ok (.iconst 0, 1) := by decide +kernel
theorem dL_law_983 : decode cL_law 983 = .ok (.laload, 1) := by decide +kernel
theorem dL_law_984 : decode cL_law 984 = .ok (.iload 6, 2) := by decide +kernel
theorem dL_law_986 : decode cL_law 986 = .ok (.i2l, 1) := by decide +kernel
theorem dL_law_987 : decode cL_law 987 = .ok (.lcmp, 1) := by decide +kernel
theorem dL_law_988 : decode cL_law 988 = .ok (.ifCond .eq 5, 3) := by decide +kernel
theorem dL_law_991 : decode cL_law 991 = .ok (.iconst 0, 1) := by decide +kernel
theorem dL_law_992 : decode cL_law 992 = .ok (.ireturn, 1) := by decide +kernel
theorem dL_law_993 : decode cL_law 993 = .ok (.goto 1481, 3) := by decide +kernel
theorem dL_law_996 : decode cL_law 996 = .ok (.aload_n 1, 1) := by decide +kernel
theorem dL_law_997 : decode cL_law 997 = .ok (.aload_n 0, 1) := by decide +kernel
theorem dL_law_998 : decode cL_law 998 = .ok (.iload 4, 2) := by decide +kernel
theorem dL_law_1000 : decode cL_law 1000 = .ok (.iconst 1, 1) := by decide +kernel
theorem dL_law_1001 : decode cL_law 1001 = .ok (.iadd, 1) := by decide +kernel
theorem dL_law_1002 : decode cL_law 1002 = .ok (.iaload, 1) := by decide +kernel
theorem dL_law_1003 : decode cL_law 1003 = .ok (.aload_n 0, 1) := by decide +kernel
theorem dL_law_1004 : decode cL_law 1004 = .ok (.iload 4, 2) := by decide +kernel
theorem dL_law_1006 : decode cL_law 1006 = .ok (.iconst 2, 1) := by decide +kernel
theorem dL_law_1007 : decode cL_law 1007 = .ok (.iadd, 1) := by decide +kernel
theorem dL_law_1008 : decode cL_law 1008 = .ok (.iaload, 1) := by decide +kernel
theorem dL_law_1009 : decode cL_law 1009 = .ok (.aload_n 3, 1) := by decide +kernel
theorem dL_law_1010 : decode cL_law 1010 = .ok (.invokestatic 184, 3) := by decide +kernel
theorem dL_law_1013 : decode cL_law 1013 = .ok (.istore 5, 2) := by decide +kernel
theorem dL_law_1015 : decode cL_law 1015 = .ok (.aload_n 2, 1) := by decide +kernel
theorem dL_law_1016 : decode cL_law 1016 = .ok (.aload_n 0, 1) := by decide +kernel
theorem dL_law_1017 : decode cL_law 1017 = .ok (.iload 4, 2) := by decide +kernel
theorem dL_law_1019 : decode cL_law 1019 = .ok (.iconst 1, 1) := by decide +kernel
theorem dL_law_1020 : decode cL_law 1020 = .ok (.iadd, 1) := by decide +kernel
theorem dL_law_1021 : decode cL_law 1021 = .ok (.iaload, 1) := by decide +kernel
theorem dL_law_1022 : decode cL_law 1022 = .ok (.aload_n 0, 1) := by decide +kernel
theorem dL_law_1023 : decode cL_law 1023 = .ok (.iload 4, 2) := by decide +kernel
theorem dL_law_1025 : decode cL_law 1025 = .ok (.iconst 2, 1) := by decide +kernel
theorem dL_law_1026 : decode cL_law 1026 = .ok (.iadd, 1) := by decide +kernel
theorem dL_law_1027 : decode cL_law 1027 = .ok (.iaload, 1) := by decide +kernel
theorem dL_law_1028 : decode cL_law 1028 = .ok (.invokevirtual 186, 3) := by decide +kernel
theorem dL_law_1031 : decode cL_law 1031 = .ok (.istore 6, 2) := by decide +kernel
theorem dL_law_1033 : decode cL_law 1033 = .ok (.aload_n 2, 1) := by decide +kernel
theorem dL_law_1034 : decode cL_law 1034 = .ok (.invokevirtual 152, 3) := by decide +kernel
theorem dL_law_1037 : decode cL_law 1037 = .ok (.iload 5, 2) := by decide +kernel
theorem dL_law_1039 : decode cL_law 1039 = .ok (.if_icmp .eq 5, 3) := by decide +kernel
theorem dL_law_1042 : decode cL_law 1042 = .ok (.iconst 0, 1) := by decide +kernel
theorem dL_law_1043 : decode cL_law 1043 = .ok (.ireturn, 1) := by decide +kernel
theorem dL_law_1044 : decode cL_law 1044 = .ok (.iload 5, 2) := by decide +kernel
theorem dL_law_1046 : decode cL_law 1046 = .ok (.ifCond .ne 22, 3) := by decide +kernel
theorem dL_law_1049 : decode cL_law 1049 = .ok (.aload_n 3, 1) := by decide +kernel
theorem dL_law_1050 : decode cL_law 1050 = .ok (.iconst 0, 1) := by decide +kernel
theorem dL_law_1051 : decode cL_law 1051 = .ok (.laload, 1) := by decide +kernel
theorem dL_law_1052 : decode cL_law 1052 = .ok (.iload 6, 2) := by decide +kernel
theorem dL_law_1054 : decode cL_law 1054 = .ok (.ifCond .eq 7, 3) := by decide +kernel
theorem dL_law_1057 : decode cL_law 1057 = .ok (.lconst 1, 1) := by decide +kernel
theorem dL_law_1058 : decode cL_law 1058 = .ok (.goto 4, 3) := by decide +kernel
theorem dL_law_1061 : decode cL_law 1061 = .ok (.lconst 0, 1) := by decide +kernel
theorem dL_law_1062 : decode cL_law 1062 = .ok (.lcmp, 1) := by decide +kernel
theorem dL_law_1063 : decode cL_law 1063 = .ok (.ifCond .eq 5, 3) := by decide +kernel
theorem dL_law_1066 : decode cL_law 1066 = .ok (.iconst 0, 1) := by decide +kernel
theorem dL_law_1067 : decode cL_law 1067 = .ok (.ireturn, 1) := by decide +kernel
theorem dL_law_1068 : decode cL_law 1068 = .ok (.goto 1406, 3) := by decide +kernel
theorem dL_law_1071 : decode cL_law 1071 = .ok (.aload_n 1, 1) := by decide +kernel
theorem dL_law_1072 : decode cL_law 1072 = .ok (.invokevirtual 187, 3) := by decide +kernel
theorem dL_law_1075 : decode cL_law 1075 = .ok (.aload_n 2, 1) := by decide +kernel
theorem dL_law_1076 : decode cL_law 1076 = .ok (.invokevirtual 190, 3) := by decide +kernel
theorem dL_law_1079 : decode cL_law 1079 = .ok (.if_icmp .eq 1395, 3) := by decide +kernel
theorem dL_law_1082 : decode cL_law 1082 = .ok (.iconst 0, 1) := by decide +kernel
theorem dL_law_1083 : decode cL_law 1083 = .ok (.ireturn, 1) := by decide +kernel
theorem dL_law_1084 : decode cL_law 1084 = .ok (.aload_n 1, 1) := by decide +kernel
theorem dL_law_1085 : decode cL_law 1085 = .ok (.invokevirtual 191, 3) := by decide +kernel
theorem dL_law_1088 : decode cL_law 1088 = .ok (.aload_n 2, 1) := by decide +kernel
theorem dL_law_1089 : decode cL_law 1089 = .ok (.invokevirtual 194, 3) := by decide +kernel
theorem dL_law_1092 : decode cL_law 1092 = .ok (.if_icmp .eq 1382, 3) := by decide +kernel
theorem dL_law_1095 : decode cL_law 1095 = .ok (.iconst 0, 1) := by decide +kernel
theorem dL_law_1096 : decode cL_law 1096 = .ok (.ireturn, 1) := by decide +kernel
theorem dL_law_1097 : decode cL_law 1097 = .ok (.aload_n 1, 1) := by decide +kernel
theorem dL_law_1098 : decode cL_law 1098 = .ok (.invokevirtual 195, 3) := by decide +kernel
theorem dL_law_1101 : decode cL_law 1101 = .ok (.aload_n 2, 1) := by decide +kernel
theorem dL_law_1102 : decode cL_law 1102 = .ok (.invokevirtual 198, 3) := by decide +kernel
theorem dL_law_1105 : decode cL_law 1105 = .ok (.if_icmp .eq 1369, 3) := by decide +kernel
theorem dL_law_1108 : decode cL_law 1108 = .ok (.iconst 0, 1) := by decide +kernel
theorem dL_law_1109 : decode cL_law 1109 = .ok (.ireturn, 1) := by decide +kernel
theorem dL_law_1110 : decode cL_law 1110 = .ok (.aload_n 1, 1) := by decide +kernel
theorem dL_law_1111 : decode cL_law 1111 = .ok (.invokevirtual 199, 3) := by decide +kernel
theorem dL_law_1114 : decode cL_law 1114 = .ok (.aload_n 2, 1) := by decide +kernel
theorem dL_law_1115 : decode cL_law 1115 = .ok (.invokevirtual 202, 3) := by decide +kernel
theorem dL_law_1118 : decode cL_law 1118 = .ok (.if_icmp .eq 1356, 3) := by decide +kernel
theorem dL_law_1121 : decode cL_law 1121 = .ok (.iconst 0, 1) := by decide +kernel
theorem dL_law_1122 : decode cL_law 1122 = .ok (.ireturn, 1) := by decide +kernel
theorem dL_law_1123 : decode cL_law 1123 = .ok (.aload_n 1, 1) := by decide +kernel
theorem dL_law_1124 : decode cL_law 1124 = .ok (.invokevirtual 203, 3) := by decide +kernel
theorem dL_law_1127 : decode cL_law 1127 = .ok (.aload_n 2, 1) := by decide +kernel
theorem dL_law_1128 : decode cL_law 1128 = .ok (.invokevirtual 206, 3) := by decide +kernel
theorem dL_law_1131 : decode cL_law 1131 = .ok (.if_icmp .eq 1343, 3) := by decide +kernel
theorem dL_law_1134 : decode cL_law 1134 = .ok (.iconst 0, 1) := by decide +kernel
theorem dL_law_1135 : decode cL_law 1135 = .ok (.ireturn, 1) := by decide +kernel
theorem dL_law_1136 : decode cL_law 1136 = .ok (.aload_n 1, 1) := by decide +kernel
theorem dL_law_1137 : decode cL_law 1137 = .ok (.invokevirtual 207, 3) := by decide +kernel
theorem dL_law_1140 : decode cL_law 1140 = .ok (.dstore 5, 2) := by decide +kernel
theorem dL_law_1142 : decode cL_law 1142 = .ok (.aload_n 2, 1) := by decide +kernel
theorem dL_law_1143 : decode cL_law 1143 = .ok (.invokevirtual 211, 3) := by decide +kernel
theorem dL_law_1146 : decode cL_law 1146 = .ok (.dstore 7, 2) := by decide +kernel
theorem dL_law_1148 : decode cL_law 1148 = .ok (.dload 5, 2) := by decide +kernel
theorem dL_law_1150 : decode cL_law 1150 = .ok (.dload 7, 2) := by decide +kernel
theorem dL_law_1152 : decode cL_law 1152 = .ok (.dcmp .l, 1) := by decide +kernel
theorem dL_law_1153 : decode cL_law 1153 = .ok (.ifCond .eq 21, 3) := by decide +kernel
theorem dL_law_1156 : decode cL_law 1156 = .ok (.dload 5, 2) := by decide +kernel
theorem dL_law_1158 : decode cL_law 1158 = .ok (.dload 5, 2) := by decide +kernel
theorem dL_law_1160 : decode cL_law 1160 = .ok (.dcmp .l, 1) := by decide +kernel
theorem dL_law_1161 : decode cL_law 1161 = .ok (.ifCond .eq 11, 3) := by decide +kernel
theorem dL_law_1164 : decode cL_law 1164 = .ok (.dload 7, 2) := by decide +kernel
theorem dL_law_1166 : decode cL_law 1166 = .ok (.dload 7, 2) := by decide +kernel
theorem dL_law_1168 : decode cL_law 1168 = .ok (.dcmp .l, 1) := by decide +kernel
theorem dL_law_1169 : decode cL_law 1169 = .ok (.ifCond .ne 5, 3) := by decide +kernel
theorem dL_law_1174 : decode cL_law 1174 = .ok (.goto 1300, 3) := by decide +kernel
theorem dL_law_1177 : decode cL_law 1177 = .ok (.aload_n 1, 1) := by decide +kernel
theorem dL_law_1178 : decode cL_law 1178 = .ok (.invokevirtual 212, 3) := by decide +kernel
theorem dL_law_1181 : decode cL_law 1181 = .ok (.f2d, 1) := by decide +kernel
theorem dL_law_1182 : decode cL_law 1182 = .ok (.dstore 5, 2) := by decide +kernel
theorem dL_law_1184 : decode cL_law 1184 = .ok (.aload_n 2, 1) := by decide +kernel
theorem dL_law_1185 : decode cL_law 1185 = .ok (.invokevirtual 216, 3) := by decide +kernel
theorem dL_law_1188 : decode cL_law 1188 = .ok (.f2d, 1) := by decide +kernel
theorem dL_law_1189 : decode cL_law 1189 = .ok (.dstore 7, 2) := by decide +kernel
theorem dL_law_1191 : decode cL_law 1191 = .ok (.dload 5, 2) := by decide +kernel
theorem dL_law_1193 : decode cL_law 1193 = .ok (.dload 7, 2) := by decide +kernel
theorem dL_law_1195 : decode cL_law 1195 = .ok (.dcmp .l, 1) := by decide +kernel
theorem dL_law_1196 : decode cL_law 1196 = .ok (.ifCond .eq 21, 3) := by decide +kernel
theorem dL_law_1199 : decode cL_law 1199 = .ok (.dload 5, 2) := by decide +kernel
theorem dL_law_1201 : decode cL_law 1201 = .ok (.dload 5, 2) := by decide +kernel
theorem dL_law_1203 : decode cL_law 1203 = .ok (.dcmp .l, 1) := by decide +kernel
theorem dL_law_1204 : decode cL_law 1204 = .ok (.ifCond .eq 11, 3) := by decide +kernel
theorem dL_law_1207 : decode cL_law 1207 = .ok (.dload 7, 2) := by decide +kernel
theorem dL_law_1209 : decode cL_law 1209 = .ok (.dload 7, 2) := by decide +kernel
theorem dL_law_1211 : decode cL_law 1211 = .ok (.dcmp .l, 1) := by decide +kernel
theorem dL_law_1212 : decode cL_law 1212 = .ok (.ifCond .ne 5, 3) := by decide +kernel
theorem dL_law_1217 : decode cL_law 1217 = .ok (.goto 1257, 3) := by decide +kernel
theorem dL_law_1220 : decode cL_law 1220 = .ok (.aload_n 1, 1) := by decide +kernel
theorem dL_law_1221 : decode cL_law 1221 = .ok (.aload_n 0, 1) := by decide +kernel
theorem dL_law_1222 : decode cL_law 1222 = .ok (.iload 4, 2) := by decide +kernel
theorem dL_law_1224 : decode cL_law 1224 = .ok (.iconst 1, 1) := by decide +kernel
theorem dL_law_1225 : decode cL_law 1225 = .ok (.iadd, 1) := by decide +kernel
theorem dL_law_1226 : decode cL_law 1226 = .ok (.iaload, 1) := by decide +kernel
theorem dL_law_1227 : decode cL_law 1227 = .ok (.aload_n 3, 1) := by decide +kernel
theorem dL_law_1228 : decode cL_law 1228 = .ok (.invokestatic 217, 3) := by decide +kernel
theorem dL_law_1231 : decode cL_law 1231 = .ok (.istore 5, 2) := by decide +kernel
theorem dL_law_1233 : decode cL_law 1233 = .ok (.aload_n 2, 1) := by decide +kernel
theorem dL_law_1234 : decode cL_law 1234 = .ok (.aload_n 0, 1) := by decide +kernel
theorem dL_law_1235 : decode cL_law 1235 = .ok (.iload 4, 2) := by decide +kernel
theorem dL_law_1237 : decode cL_law 1237 = .ok (.iconst 1, 1) := by decide +kernel
theorem dL_law_1238 : decode cL_law 1238 = .ok (.iadd, 1) := by decide +kernel
theorem dL_law_1239 : decode cL_law 1239 = .ok (.iaload, 1) := by decide +kernel
theorem dL_law_1240 : decode cL_law 1240 = .ok (.invokevirtual 219, 3) := by decide +kernel
theorem dL_law_1243 : decode cL_law 1243 = .ok (.istore 6, 2) := by decide +kernel
theorem dL_law_1245 : decode cL_law 1245 = .ok (.aload_n 2, 1) := by decide +kernel
theorem dL_law_1246 : decode cL_law 1246 = .ok (.invokevirtual 152, 3) := by decide +kernel
theorem dL_law_1249 : decode cL_law 1249 = .ok (.iload 5, 2) := by decide +kernel
theorem dL_law_1251 : decode cL_law 1251 = .ok (.if_icmp .eq 5, 3) := by decide +kernel
theorem dL_law_1254 : decode cL_law 1254 = .ok (.iconst 0, 1) := by decide +kernel
theorem dL_law_1255 : decode cL_law 1255 = .ok (.ireturn, 1) := by decide +kernel
theorem dL_law_1256 : decode cL_law 1256 = .ok (.iload 5, 2) := by decide +kernel
theorem dL_law_1258 : decode cL_law 1258 = .ok (.ifCond .ne 15, 3) := by decide +kernel
theorem dL_law_1261 : decode cL_law 1261 = .ok (.aload_n 3, 1) := by decide +kernel
theorem dL_law_1262 : decode cL_law 1262 = .ok (.iconst 0, 1) := by decide +kernel
theorem dL_law_1263 : decode cL_law 1263 = .ok (.laload, 1) := by decide +kernel
theorem dL_law_1264 : decode cL_law 1264 = .ok (.iload 6, 2) := by decide +kernel
theorem dL_law_1266 : decode cL_law 1266 = .ok (.i2l, 1) := by decide +kernel
theorem dL_law_1267 : decode cL_law 1267 = .ok (.lcmp, 1) := by decide +kernel
theorem dL_law_1268 : decode cL_law 1268 = .ok (.ifCond .eq 5, 3) := by decide +kernel
theorem dL_law_1271 : decode cL_law 1271 = .ok (.iconst 0, 1) := by decide +kernel
theorem dL_law_1272 : decode cL_law 1272 = .ok (.ireturn, 1) := by decide +kernel
theorem dL_law_1273 : decode cL_law 1273 = .ok (.goto 1201, 3) := by decide +kernel
theorem dL_law_1276 : decode cL_law 1276 = .ok (.aload_n 1, 1) := by decide +kernel
theorem dL_law_1277 : decode cL_law 1277 = .ok (.aload_n 0, 1) := by decide +kernel
theorem dL_law_1278 : decode cL_law 1278 = .ok (.iload 4, 2) := by decide +kernel
theorem dL_law_1280 : decode cL_law 1280 = .ok (.iconst 1, 1) := by decide +kernel
theorem dL_law_1281 : decode cL_law 1281 = .ok (.iadd, 1) := by decide +kernel
theorem dL_law_1282 : decode cL_law 1282 = .ok (.iaload, 1) := by decide +kernel
theorem dL_law_1283 : decode cL_law 1283 = .ok (.aload_n 0, 1) := by decide +kernel
theorem dL_law_1284 : decode cL_law 1284 = .ok (.iload 4, 2) := by decide +kernel
theorem dL_law_1286 : decode cL_law 1286 = .ok (.iconst 2, 1) := by decide +kernel
theorem dL_law_1287 : decode cL_law 1287 = .ok (.iadd, 1) := by decide +kernel
theorem dL_law_1288 : decode cL_law 1288 = .ok (.iaload, 1) := by decide +kernel
theorem dL_law_1289 : decode cL_law 1289 = .ok (.aload_n 0, 1) := by decide +kernel
theorem dL_law_1290 : decode cL_law 1290 = .ok (.iload 4, 2) := by decide +kernel
theorem dL_law_1292 : decode cL_law 1292 = .ok (.iconst 3, 1) := by decide +kernel
theorem dL_law_1293 : decode cL_law 1293 = .ok (.iadd, 1) := by decide +kernel
theorem dL_law_1294 : decode cL_law 1294 = .ok (.iaload, 1) := by decide +kernel
theorem dL_law_1295 : decode cL_law 1295 = .ok (.aload_n 3, 1) := by decide +kernel
theorem dL_law_1296 : decode cL_law 1296 = .ok (.invokestatic 220, 3) := by decide +kernel
theorem dL_law_1299 : decode cL_law 1299 = .ok (.istore 5, 2) := by decide +kernel
theorem dL_law_1301 : decode cL_law 1301 = .ok (.aload_n 2, 1) := by decide +kernel
theorem dL_law_1302 : decode cL_law 1302 = .ok (.aload_n 0, 1) := by decide +kernel
theorem dL_law_1303 : decode cL_law 1303 = .ok (.iload 4, 2) := by decide +kernel
theorem dL_law_1305 : decode cL_law 1305 = .ok (.iconst 1, 1) := by decide +kernel
theorem dL_law_1306 : decode cL_law 1306 = .ok (.iadd, 1) := by decide +kernel
theorem dL_law_1307 : decode cL_law 1307 = .ok (.iaload, 1) := by decide +kernel
theorem dL_law_1308 : decode cL_law 1308 = .ok (.aload_n 0, 1) := by decide +kernel
theorem dL_law_1309 : decode cL_law 1309 = .ok (.iload 4, 2) := by decide +kernel
theorem dL_law_1311 : decode cL_law 1311 = .ok (.iconst 2, 1) := by decide +kernel
theorem dL_law_1312 : decode cL_law 1312 = .ok (.iadd, 1) := by decide +kernel
theorem dL_law_1313 : decode cL_law 1313 = .ok (.iaload, 1) := by decide +kernel
theorem dL_law_1314 : decode cL_law 1314 = .ok (.aload_n 0, 1) := by decide +kernel
theorem dL_law_1315 : decode cL_law 1315 = .ok (.iload 4, 2) := by decide +kernel
theorem dL_law_1317 : decode cL_law 1317 = .ok (.iconst 3, 1) := by decide +kernel
theorem dL_law_1318 : decode cL_law 1318 = .ok (.iadd, 1) := by decide +kernel
theorem dL_law_1319 : decode cL_law 1319 = .ok (.iaload, 1) := by decide +kernel
theorem dL_law_1320 : decode cL_law 1320 = .ok (.invokevirtual 223, 3) := by decide +kernel
theorem dL_law_1323 : decode cL_law 1323 = .ok (.istore 6, 2) := by decide +kernel
theorem dL_law_1325 : decode cL_law 1325 = .ok (.aload_n 2, 1) := by decide +kernel
theorem dL_law_1326 : decode cL_law 1326 = .ok (.invokevirtual 152, 3) := by decide +kernel
theorem dL_law_1329 : decode cL_law 1329 = .ok (.iload 5, 2) := by decide +kernel
theorem dL_law_1331 : decode cL_law 1331 = .ok (.if_icmp .eq 5, 3) := by decide +kernel
theorem dL_law_1334 : decode cL_law 1334 = .ok (.iconst 0, 1) := by decide +kernel
theorem dL_law_1335 : decode cL_law 1335 = .ok (.ireturn, 1) := by decide +kernel
theorem dL_law_1336 : decode cL_law 1336 = .ok (.iload 5, 2) := by decide +kernel
theorem dL_law_1338 : decode cL_law 1338 = .ok (.ifCond .ne 15, 3) := by decide +kernel
theorem dL_law_1341 : decode cL_law 1341 = .ok (.aload_n 3, 1) := by decide +kernel
theorem dL_law_1342 : decode cL_law 1342 = .ok (.iconst 0, 1) := by decide +kernel
theorem dL_law_1343 : decode cL_law 1343 = .ok (.laload, 1) := by decide +kernel
theorem dL_law_1344 : decode cL_law 1344 = .ok (.iload 6, 2) := by decide +kernel
theorem dL_law_1346 : decode cL_law 1346 = .ok (.i2l, 1) := by decide +kernel
theorem dL_law_1347 : decode cL_law 1347 = .ok (.lcmp, 1) := by decide +kernel
theorem dL_law_1348 : decode cL_law 1348 = .ok (.ifCond .eq 5, 3) := by decide +kernel
theorem dL_law_1351 : decode cL_law 1351 = .ok (.iconst 0, 1) := by decide +kernel
theorem dL_law_1352 : decode cL_law 1352 = .ok (.ireturn, 1) := by decide +kernel
theorem dL_law_1353 : decode cL_law 1353 = .ok (.goto 1121, 3) := by decide +kernel
theorem dL_law_1356 : decode cL_law 1356 = .ok (.aload_n 1, 1) := by decide +kernel
theorem dL_law_1357 : decode cL_law 1357 = .ok (.aload_n 0, 1) := by decide +kernel
theorem dL_law_1358 : decode cL_law 1358 = .ok (.iload 4, 2) := by decide +kernel
theorem dL_law_1360 : decode cL_law 1360 = .ok (.iconst 1, 1) := by decide +kernel
theorem dL_law_1361 : decode cL_law 1361 = .ok (.iadd, 1) := by decide +kernel
theorem dL_law_1362 : decode cL_law 1362 = .ok (.iaload, 1) := by decide +kernel
theorem dL_law_1363 : decode cL_law 1363 = .ok (.aload_n 3, 1) := by decide +kernel
theorem dL_law_1364 : decode cL_law 1364 = .ok (.invokestatic 224, 3) := by decide +kernel
theorem dL_law_1367 : decode cL_law 1367 = .ok (.istore 5, 2) := by decide +kernel
theorem dL_law_1369 : decode cL_law 1369 = .ok (.aload_n 2, 1) := by decide +kernel
theorem dL_law_1370 : decode cL_law 1370 = .ok (.aload_n 0, 1) := by decide +kernel
theorem dL_law_1371 : decode cL_law 1371 = .ok (.iload 4, 2) := by decide +kernel
theorem dL_law_1373 : decode cL_law 1373 = .ok (.iconst 1, 1) := by decide +kernel
theorem dL_law_1374 : decode cL_law 1374 = .ok (.iadd, 1) := by decide +kernel
theorem dL_law_1375 : decode cL_law 1375 = .ok (.iaload, 1) := by decide +kernel
theorem dL_law_1376 : decode cL_law 1376 = .ok (.invokevirtual 226, 3) := by decide +kernel
theorem dL_law_1379 : decode cL_law 1379 = .ok (.istore 6, 2) := by decide +kernel
theorem dL_law_1381 : decode cL_law 1381 = .ok (.aload_n 2, 1) := by decide +kernel
theorem dL_law_1382 : decode cL_law 1382 = .ok (.invokevirtual 152, 3) := by decide +kernel
theorem dL_law_1385 : decode cL_law 1385 = .ok (.iload 5, 2) := by decide +kernel
theorem dL_law_1387 : decode cL_law 1387 = .ok (.if_icmp .eq 5, 3) := by decide +kernel
theorem dL_law_1390 : decode cL_law 1390 = .ok (.iconst 0, 1) := by decide +kernel
theorem dL_law_1391 : decode cL_law 1391 = .ok (.ireturn, 1) := by decide +kernel
theorem dL_law_1392 : decode cL_law 1392 = .ok (.iload 5, 2) := by decide +kernel
theorem dL_law_1394 : decode cL_law 1394 = .ok (.ifCond .ne 15, 3) := by decide +kernel
theorem dL_law_1397 : decode cL_law 1397 = .ok (.aload_n 3, 1) := by decide +kernel
theorem dL_law_1398 : decode cL_law 1398 = .ok (.iconst 0, 1) := by decide +kernel
theorem dL_law_1399 : decode cL_law 1399 = .ok (.laload, 1) := by decide +kernel
theorem dL_law_1400 : decode cL_law 1400 = .ok (.iload 6, 2) := by decide +kernel
theorem dL_law_1402 : decode cL_law 1402 = .ok (.i2l, 1) := by decide +kernel
theorem dL_law_1403 : decode cL_law 1403 = .ok (.lcmp, 1) := by decide +kernel
theorem dL_law_1404 : decode cL_law 1404 = .ok (.ifCond .eq 5, 3) := by decide +kernel
theorem dL_law_1407 : decode cL_law 1407 = .ok (.iconst 0, 1) := by decide +kernel
theorem dL_law_1408 : decode cL_law 1408 = .ok (.ireturn, 1) := by decide +kernel
theorem dL_law_1409 : decode cL_law 1409 = .ok (.goto 1065, 3) := by decide +kernel
theorem dL_law_1412 : decode cL_law 1412 = .ok (.aload_n 1, 1) := by decide +kernel
theorem dL_law_1413 : decode cL_law 1413 = .ok (.aload_n 0, 1) := by decide +kernel
theorem dL_law_1414 : decode cL_law 1414 = .ok (.iload 4, 2) := by decide +kernel
theorem dL_law_1416 : decode cL_law 1416 = .ok (.iconst 1, 1) := by decide +kernel
theorem dL_law_1417 : decode cL_law 1417 = .ok (.iadd, 1) := by decide +kernel
theorem dL_law_1418 : decode cL_law 1418 = .ok (.iaload, 1) := by decide +kernel
theorem dL_law_1419 : decode cL_law 1419 = .ok (.aload_n 0, 1) := by decide +kernel
theorem dL_law_1420 : decode cL_law 1420 = .ok (.iload 4, 2) := by decide +kernel
theorem dL_law_1422 : decode cL_law 1422 = .ok (.iconst 2, 1) := by decide +kernel
theorem dL_law_1423 : decode cL_law 1423 = .ok (.iadd, 1) := by decide +kernel
theorem dL_law_1424 : decode cL_law 1424 = .ok (.iaload, 1) := by decide +kernel
theorem dL_law_1425 : decode cL_law 1425 = .ok (.aload_n 3, 1) := by decide +kernel
theorem dL_law_1426 : decode cL_law 1426 = .ok (.invokestatic 227, 3) := by decide +kernel
theorem dL_law_1429 : decode cL_law 1429 = .ok (.istore 5, 2) := by decide +kernel
theorem dL_law_1431 : decode cL_law 1431 = .ok (.aload_n 2, 1) := by decide +kernel
theorem dL_law_1432 : decode cL_law 1432 = .ok (.aload_n 0, 1) := by decide +kernel
theorem dL_law_1433 : decode cL_law 1433 = .ok (.iload 4, 2) := by decide +kernel
theorem dL_law_1435 : decode cL_law 1435 = .ok (.iconst 1, 1) := by decide +kernel
theorem dL_law_1436 : decode cL_law 1436 = .ok (.iadd, 1) := by decide +kernel
theorem dL_law_1437 : decode cL_law 1437 = .ok (.iaload, 1) := by decide +kernel
theorem dL_law_1438 : decode cL_law 1438 = .ok (.aload_n 0, 1) := by decide +kernel
theorem dL_law_1439 : decode cL_law 1439 = .ok (.iload 4, 2) := by decide +kernel
theorem dL_law_1441 : decode cL_law 1441 = .ok (.iconst 2, 1) := by decide +kernel
theorem dL_law_1442 : decode cL_law 1442 = .ok (.iadd, 1) := by decide +kernel
theorem dL_law_1443 : decode cL_law 1443 = .ok (.iaload, 1) := by decide +kernel
theorem dL_law_1444 : decode cL_law 1444 = .ok (.invokevirtual 229, 3) := by decide +kernel
theorem dL_law_1447 : decode cL_law 1447 = .ok (.istore 6, 2) := by decide +kernel
theorem dL_law_1449 : decode cL_law 1449 = .ok (.aload_n 2, 1) := by decide +kernel
theorem dL_law_1450 : decode cL_law 1450 = .ok (.invokevirtual 152, 3) := by decide +kernel
theorem dL_law_1453 : decode cL_law 1453 = .ok (.iload 5, 2) := by decide +kernel
theorem dL_law_1455 : decode cL_law 1455 = .ok (.if_icmp .eq 5, 3) := by decide +kernel
theorem dL_law_1458 : decode cL_law 1458 = .ok (.iconst 0, 1) := by decide +kernel
theorem dL_law_1459 : decode cL_law 1459 = .ok (.ireturn, 1) := by decide +kernel
theorem dL_law_1460 : decode cL_law 1460 = .ok (.iload 5, 2) := by decide +kernel
theorem dL_law_1462 : decode cL_law 1462 = .ok (.ifCond .ne 15, 3) := by decide +kernel
theorem dL_law_1465 : decode cL_law 1465 = .ok (.aload_n 3, 1) := by decide +kernel
theorem dL_law_1466 : decode cL_law 1466 = .ok (.iconst 0, 1) := by decide +kernel
theorem dL_law_1467 : decode cL_law 1467 = .ok (.laload, 1) := by decide +kernel
theorem dL_law_1468 : decode cL_law 1468 = .ok (.iload 6, 2) := by decide +kernel
theorem dL_law_1470 : decode cL_law 1470 = .ok (.i2l, 1) := by decide +kernel
theorem dL_law_1471 : decode cL_law 1471 = .ok (.lcmp, 1) := by decide +kernel
theorem dL_law_1472 : decode cL_law 1472 = .ok (.ifCond .eq 5, 3) := by decide +kernel
theorem dL_law_1475 : decode cL_law 1475 = .ok (.iconst 0, 1) := by decide +kernel
theorem dL_law_1476 : decode cL_law 1476 = .ok (.ireturn, 1) := by decide +kernel
theorem dL_law_1477 : decode cL_law 1477 = .ok (.goto 997, 3) := by decide +kernel
theorem dL_law_1480 : decode cL_law 1480 = .ok (.aload_n 1, 1) := by decide +kernel
theorem dL_law_1481 : decode cL_law 1481 = .ok (.aload_n 0, 1) := by decide +kernel
theorem dL_law_1482 : decode cL_law 1482 = .ok (.iload 4, 2) := by decide +kernel
theorem dL_law_1484 : decode cL_law 1484 = .ok (.iconst 1, 1) := by decide +kernel
theorem dL_law_1485 : decode cL_law 1485 = .ok (.iadd, 1) := by decide +kernel
theorem dL_law_1486 : decode cL_law 1486 = .ok (.iaload, 1) := by decide +kernel
theorem dL_law_1487 : decode cL_law 1487 = .ok (.aload_n 0, 1) := by decide +kernel
theorem dL_law_1488 : decode cL_law 1488 = .ok (.iload 4, 2) := by decide +kernel
theorem dL_law_1490 : decode cL_law 1490 = .ok (.iconst 2, 1) := by decide +kernel
theorem dL_law_1491 : decode cL_law 1491 = .ok (.iadd, 1) := by decide +kernel
theorem dL_law_1492 : decode cL_law 1492 = .ok (.iaload, 1) := by decide +kernel
theorem dL_law_1493 : decode cL_law 1493 = .ok (.aload_n 3, 1) := by decide +kernel
theorem dL_law_1494 : decode cL_law 1494 = .ok (.invokestatic 230, 3) := by decide +kernel
theorem dL_law_1497 : decode cL_law 1497 = .ok (.istore 5, 2) := by decide +kernel
theorem dL_law_1499 : decode cL_law 1499 = .ok (.aload_n 2, 1) := by decide +kernel
theorem dL_law_1500 : decode cL_law 1500 = .ok (.aload_n 0, 1) := by decide +kernel
theorem dL_law_1501 : decode cL_law 1501 = .ok (.iload 4, 2) := by decide +kernel
theorem dL_law_1503 : decode cL_law 1503 = .ok (.iconst 1, 1) := by decide +kernel
theorem dL_law_1504 : decode cL_law 1504 = .ok (.iadd, 1) := by decide +kernel
theorem dL_law_1505 : decode cL_law 1505 = .ok (.iaload, 1) := by decide +kernel
theorem dL_law_1506 : decode cL_law 1506 = .ok (.aload_n 0, 1) := by decide +kernel
theorem dL_law_1507 : decode cL_law 1507 = .ok (.iload 4, 2) := by decide +kernel
theorem dL_law_1509 : decode cL_law 1509 = .ok (.iconst 2, 1) := by decide +kernel
theorem dL_law_1510 : decode cL_law 1510 = .ok (.iadd, 1) := by decide +kernel
theorem dL_law_1511 : decode cL_law 1511 = .ok (.iaload, 1) := by decide +kernel
theorem dL_law_1512 : decode cL_law 1512 = .ok (.invokevirtual 232, 3) := by decide +kernel
theorem dL_law_1515 : decode cL_law 1515 = .ok (.istore 6, 2) := by decide +kernel
theorem dL_law_1517 : decode cL_law 1517 = .ok (.aload_n 2, 1) := by decide +kernel
theorem dL_law_1518 : decode cL_law 1518 = .ok (.invokevirtual 152, 3) := by decide +kernel
theorem dL_law_1521 : decode cL_law 1521 = .ok (.iload 5, 2) := by decide +kernel
theorem dL_law_1523 : decode cL_law 1523 = .ok (.if_icmp .eq 5, 3) := by decide +kernel
theorem dL_law_1526 : decode cL_law 1526 = .ok (.iconst 0, 1) := by decide +kernel
theorem dL_law_1527 : decode cL_law 1527 = .ok (.ireturn, 1) := by decide +kernel
theorem dL_law_1528 : decode cL_law 1528 = .ok (.iload 5, 2) := by decide +kernel
theorem dL_law_1530 : decode cL_law 1530 = .ok (.ifCond .ne 15, 3) := by decide +kernel
theorem dL_law_1533 : decode cL_law 1533 = .ok (.aload_n 3, 1) := by decide +kernel
theorem dL_law_1534 : decode cL_law 1534 = .ok (.iconst 0, 1) := by decide +kernel
theorem dL_law_1535 : decode cL_law 1535 = .ok (.laload, 1) := by decide +kernel
theorem dL_law_1536 : decode cL_law 1536 = .ok (.iload 6, 2) := by decide +kernel
theorem dL_law_1538 : decode cL_law 1538 = .ok (.i2l, 1) := by decide +kernel
theorem dL_law_1539 : decode cL_law 1539 = .ok (.lcmp, 1) := by decide +kernel
theorem dL_law_1540 : decode cL_law 1540 = .ok (.ifCond .eq 5, 3) := by decide +kernel
theorem dL_law_1543 : decode cL_law 1543 = .ok (.iconst 0, 1) := by decide +kernel
theorem dL_law_1544 : decode cL_law 1544 = .ok (.ireturn, 1) := by decide +kernel
theorem dL_law_1545 : decode cL_law 1545 = .ok (.goto 929, 3) := by decide +kernel
theorem dL_law_1548 : decode cL_law 1548 = .ok (.aload_n 1, 1) := by decide +kernel
theorem dL_law_1549 : decode cL_law 1549 = .ok (.aload_n 0, 1) := by decide +kernel
theorem dL_law_1550 : decode cL_law 1550 = .ok (.iload 4, 2) := by decide +kernel
theorem dL_law_1552 : decode cL_law 1552 = .ok (.iconst 1, 1) := by decide +kernel
theorem dL_law_1553 : decode cL_law 1553 = .ok (.iadd, 1) := by decide +kernel
theorem dL_law_1554 : decode cL_law 1554 = .ok (.iaload, 1) := by decide +kernel
theorem dL_law_1555 : decode cL_law 1555 = .ok (.aload_n 0, 1) := by decide +kernel
theorem dL_law_1556 : decode cL_law 1556 = .ok (.iload 4, 2) := by decide +kernel
theorem dL_law_1558 : decode cL_law 1558 = .ok (.iconst 2, 1) := by decide +kernel
theorem dL_law_1559 : decode cL_law 1559 = .ok (.iadd, 1) := by decide +kernel
theorem dL_law_1560 : decode cL_law 1560 = .ok (.iaload, 1) := by decide +kernel
theorem dL_law_1561 : decode cL_law 1561 = .ok (.aload_n 3, 1) := by decide +kernel
theorem dL_law_1562 : decode cL_law 1562 = .ok (.invokestatic 233, 3) := by decide +kernel
theorem dL_law_1565 : decode cL_law 1565 = .ok (.istore 5, 2) := by decide +kernel
theorem dL_law_1567 : decode cL_law 1567 = .ok (.aload_n 2, 1) := by decide +kernel
theorem dL_law_1568 : decode cL_law 1568 = .ok (.aload_n 0, 1) := by decide +kernel
theorem dL_law_1569 : decode cL_law 1569 = .ok (.iload 4, 2) := by decide +kernel
theorem dL_law_1571 : decode cL_law 1571 = .ok (.iconst 1, 1) := by decide +kernel
theorem dL_law_1572 : decode cL_law 1572 = .ok (.iadd, 1) := by decide +kernel
theorem dL_law_1573 : decode cL_law 1573 = .ok (.iaload, 1) := by decide +kernel
theorem dL_law_1574 : decode cL_law 1574 = .ok (.aload_n 0, 1) := by decide +kernel
theorem dL_law_1575 : decode cL_law 1575 = .ok (.iload 4, 2) := by decide +kernel
theorem dL_law_1577 : decode cL_law 1577 = .ok (.iconst 2, 1) := by decide +kernel
theorem dL_law_1578 : decode cL_law 1578 = .ok (.iadd, 1) := by decide +kernel
theorem dL_law_1579 : decode cL_law 1579 = .ok (.iaload, 1) := by decide +kernel
theorem dL_law_1580 : decode cL_law 1580 = .ok (.invokevirtual 235, 3) := by decide +kernel
theorem dL_law_1583 : decode cL_law 1583 = .ok (.istore 6, 2) := by decide +kernel
theorem dL_law_1585 : decode cL_law 1585 = .ok (.aload_n 2, 1) := by decide +kernel
theorem dL_law_1586 : decode cL_law 1586 = .ok (.invokevirtual 152, 3) := by decide +kernel
theorem dL_law_1589 : decode cL_law 1589 = .ok (.iload 5, 2) := by decide +kernel
theorem dL_law_1591 : decode cL_law 1591 = .ok (.if_icmp .eq 5, 3) := by decide +kernel
theorem dL_law_1594 : decode cL_law 1594 = .ok (.iconst 0, 1) := by decide +kernel
theorem dL_law_1595 : decode cL_law 1595 = .ok (.ireturn, 1) := by decide +kernel
theorem dL_law_1596 : decode cL_law 1596 = .ok (.iload 5, 2) := by decide +kernel
theorem dL_law_1598 : decode cL_law 1598 = .ok (.ifCond .ne 15, 3) := by decide +kernel
theorem dL_law_1601 : decode cL_law 1601 = .ok (.aload_n 3, 1) := by decide +kernel
theorem dL_law_1602 : decode cL_law 1602 = .ok (.iconst 0, 1) := by decide +kernel
theorem dL_law_1603 : decode cL_law 1603 = .ok (.laload, 1) := by decide +kernel
theorem dL_law_1604 : decode cL_law 1604 = .ok (.iload 6, 2) := by decide +kernel
theorem dL_law_1606 : decode cL_law 1606 = .ok (.i2l, 1) := by decide +kernel
theorem dL_law_1607 : decode cL_law 1607 = .ok (.lcmp, 1) := by decide +kernel
theorem dL_law_1608 : decode cL_law 1608 = .ok (.ifCond .eq 5, 3) := by decide +kernel
theorem dL_law_1611 : decode cL_law 1611 = .ok (.iconst 0, 1) := by decide +kernel
theorem dL_law_1612 : decode cL_law 1612 = .ok (.ireturn, 1) := by decide +kernel
theorem dL_law_1613 : decode cL_law 1613 = .ok (.goto 861, 3) := by decide +kernel
theorem dL_law_1616 : decode cL_law 1616 = .ok (.aload_n 1, 1) := by decide +kernel
theorem dL_law_1617 : decode cL_law 1617 = .ok (.aload_n 0, 1) := by decide +kernel
theorem dL_law_1618 : decode cL_law 1618 = .ok (.iload 4, 2) := by decide +kernel
theorem dL_law_1620 : decode cL_law 1620 = .ok (.iconst 1, 1) := by decide +kernel
theorem dL_law_1621 : decode cL_law 1621 = .ok (.iadd, 1) := by decide +kernel
theorem dL_law_1622 : decode cL_law 1622 = .ok (.iaload, 1) := by decide +kernel
theorem dL_law_1623 : decode cL_law 1623 = .ok (.aload_n 3, 1) := by decide +kernel
theorem dL_law_1624 : decode cL_law 1624 = .ok (.invokestatic 236, 3) := by decide +kernel
theorem dL_law_1627 : decode cL_law 1627 = .ok (.istore 5, 2) := by decide +kernel
theorem dL_law_1629 : decode cL_law 1629 = .ok (.aload_n 2, 1) := by decide +kernel
theorem dL_law_1630 : decode cL_law 1630 = .ok (.aload_n 0, 1) := by decide +kernel
theorem dL_law_1631 : decode cL_law 1631 = .ok (.iload 4, 2) := by decide +kernel
theorem dL_law_1633 : decode cL_law 1633 = .ok (.iconst 1, 1) := by decide +kernel
theorem dL_law_1634 : decode cL_law 1634 = .ok (.iadd, 1) := by decide +kernel
theorem dL_law_1635 : decode cL_law 1635 = .ok (.iaload, 1) := by decide +kernel
theorem dL_law_1636 : decode cL_law 1636 = .ok (.invokevirtual 238, 3) := by decide +kernel
theorem dL_law_1639 : decode cL_law 1639 = .ok (.istore 6, 2) := by decide +kernel
theorem dL_law_1641 : decode cL_law 1641 = .ok (.aload_n 2, 1) := by decide +kernel
theorem dL_law_1642 : decode cL_law 1642 = .ok (.invokevirtual 152, 3) := by decide +kernel
theorem dL_law_1645 : decode cL_law 1645 = .ok (.iload 5, 2) := by decide +kernel
theorem dL_law_1647 : decode cL_law 1647 = .ok (.if_icmp .eq 5, 3) := by decide +kernel
theorem dL_law_1650 : decode cL_law 1650 = .ok (.iconst 0, 1) := by decide +kernel
theorem dL_law_1651 : decode cL_law 1651 = .ok (.ireturn, 1) := by decide +kernel
theorem dL_law_1652 : decode cL_law 1652 = .ok (.iload 5, 2) := by decide +kernel
theorem dL_law_1654 : decode cL_law 1654 = .ok (.ifCond .ne 15, 3) := by decide +kernel
theorem dL_law_1657 : decode cL_law 1657 = .ok (.aload_n 3, 1) := by decide +kernel
theorem dL_law_1658 : decode cL_law 1658 = .ok (.iconst 0, 1) := by decide +kernel
theorem dL_law_1659 : decode cL_law 1659 = .ok (.laload, 1) := by decide +kernel
theorem dL_law_1660 : decode cL_law 1660 = .ok (.iload 6, 2) := by decide +kernel
theorem dL_law_1662 : decode cL_law 1662 = .ok (.i2l, 1) := by decide +kernel
theorem dL_law_1663 : decode cL_law 1663 = .ok (.lcmp, 1) := by decide +kernel
theorem dL_law_1664 : decode cL_law 1664 = .ok (.ifCond .eq 5, 3) := by decide +kernel
theorem dL_law_1667 : decode cL_law 1667 = .ok (.iconst 0, 1) := by decide +kernel
theorem dL_law_1668 : decode cL_law 1668 = .ok (.ireturn, 1) := by decide +kernel
theorem dL_law_1669 : decode cL_law 1669 = .ok (.goto 805, 3) := by decide +kernel
def f_law_16 (n : Nat) (L : Nat) (xs : Nat → Int32) (v4 : Int32) (sv_0 : Value) (p1_0 : OS) (p1in_0 : OS) (p1ou_0 : OS) (p1ru_0 : OS) (p1no_0 : OS) (p1fo_0 : OS) (p1rd_0 : OS) (p1rr_0 : OS) (p1pa_0 : PS) (p2_0 : OS) (p3_0 : Nat → Int64) (so_0 : Option OS) : Option LST :=
  gI L (v4 + (1 : Int32)) (Let (xs (v4 + (1 : Int32)).toNatClampNeg) (fun x_1 : Int32 =>
  bnd2 (f_L_evidence n sv_0 p1_0 p1no_0 1 p3_0 x_1) (fun (p3_2 : Nat → Int64) (r_3 : Int32) =>
  gI L (v4 + (1 : Int32)) (Let (xs (v4 + (1 : Int32)).toNatClampNeg) (fun x_4 : Int32 =>
  bnd2 (f_X9_evidence n p2_0 x_4) (fun (p2_5 : OS) (r_6 : Int32) =>
  bnd (f_X9_thrown n p2_5) (fun (r_7 : Int32) =>
  if r_7 = r_3 then (
  if r_3 = 0 then (
  gI 1 (0 : Int32) (Let (p3_2 (0 : Int32).toNatClampNeg) (fun x_8 : Int64 =>
  if (lg_cmp x_8 ((r_6).toInt64)) = 0 then (
  some (p1_0, p1in_0, p1ou_0, p1ru_0, p1no_0, p1fo_0, p1rd_0, p1rr_0, p1pa_0, p2_5, p3_2, so_0)) else (
  none)))) else (
  some (p1_0, p1in_0, p1ou_0, p1ru_0, p1no_0, p1fo_0, p1rd_0, p1rr_0, p1pa_0, p2_5, p3_2, so_0))) else (
  none))))))))
set_option maxHeartbeats 4000000 in
set_option maxRecDepth 100000 in
theorem c_law_16 {p : Program} {l : Launch} {e : Env} {s : State} {m : MethodId} {below : List Frame} {meth : Method} {c : Code} {A : Nat → Prop} {Q : State → Prop} {b L : Nat} {xs : Nat → Int32} {k : KT} (n : Nat) (hE : EH k) (hx : XH l k) (hN : CCH k) (E : E0 p s m c cL_law 9 RL k A) (hX : va_X b L xs s s.heap) (hbl : b < s.heap.size) (hbA : ¬ A b) (hA : ∀ q : Nat, s.heap.size ≤ q → A q) (a_p1 : Nat → Nat) (a_p1in : Nat → Nat) (a_p1ou : Nat → Nat) (a_p1ru : Nat → Nat) (a_p1no : Nat → Nat) (a_p1fo : Nat → Nat) (a_p1rd : Nat → Nat) (a_p1rr : Nat → Nat) (a_p1pa : Nat → Nat) (a_p2 : Nat → Nat) (a_p3 : Nat → Nat) (pp_0 : Nat → Nat → Nat) (sa_0 : Nat → Nat) (v4 : Int32) (p1_0 : OS) (p1in_0 : OS) (p1ou_0 : OS) (p1ru_0 : OS) (p1no_0 : OS) (p1fo_0 : OS) (p1rd_0 : OS) (p1rr_0 : OS) (p1pa_0 : PS) (p2_0 : OS) (p3_0 : Nat → Int64) (so_0 : Option OS) (res : LST) (hf : f_law_16 n L xs v4 (svV sa_0 so_0) p1_0 p1in_0 p1ou_0 p1ru_0 p1no_0 p1fo_0 p1rd_0 p1rr_0 p1pa_0 p2_0 p3_0 so_0 = some res)
    (H : Heap) (locs : List Loc) (ls : Array Slot) (c0 s0 : Nat) (hc0 : c0 + 40 ≤ 601024) (hs0 : s0 + 8000 ≤ 7293034) (hW : WD k A s.heap ((List.flatten [wMCo k a_p1 (a_p1in 0) (a_p1ou 0) (a_p1ru 0) (a_p1no 0) (a_p1fo 0) (a_p1rd 0) (a_p1pa 0) (svV sa_0 so_0) p1_0, wBytes k a_p1in 600 p1in_0, wBytes k a_p1ou 1024 p1ou_0, wRules k a_p1ru p1ru_0, wCourt k a_p1no p1no_0, wCourt k a_p1fo p1fo_0, wReader k a_p1rd (a_p1in 0) (a_p1fo 0) (a_p1rr 0) p1rd_0, wRules k a_p1rr p1rr_0, wPast k a_p1pa pp_0 p1pa_0, wModel k a_p2 p2_0, wJArr k a_p3 1 p3_0] ++ savW k sa_0 so_0) ++ poolW k pp_0 p1pa_0.2) H locs) (hl : lv_has ls 9 [(0, .ref b), (1, .ref (a_p1 0)), (2, .ref (a_p2 0)), (3, .ref (a_p3 0)), (4, .int v4)])
    (hgo : ∀ (pp : Nat → Nat → Nat) (sa : Nat → Nat) (H : Heap) (locs : List Loc) (ls : Array Slot) (cells slots : Nat), cells ≤ c0 + 40 → slots ≤ s0 + 8000 → WD k A s.heap ((List.flatten [wMCo k a_p1 (a_p1in 0) (a_p1ou 0) (a_p1ru 0) (a_p1no 0) (a_p1fo 0) (a_p1rd 0) (a_p1pa 0) (svV sa (res.2.2.2.2.2.2.2.2.2.2.2)) (res.1), wBytes k a_p1in 600 (res.2.1), wBytes k a_p1ou 1024 (res.2.2.1), wRules k a_p1ru (res.2.2.2.1), wCourt k a_p1no (res.2.2.2.2.1), wCourt k a_p1fo (res.2.2.2.2.2.1), wReader k a_p1rd (a_p1in 0) (a_p1fo 0) (a_p1rr 0) (res.2.2.2.2.2.2.1), wRules k a_p1rr (res.2.2.2.2.2.2.2.1), wPast k a_p1pa pp (res.2.2.2.2.2.2.2.2.1), wModel k a_p2 (res.2.2.2.2.2.2.2.2.2.1), wJArr k a_p3 1 (res.2.2.2.2.2.2.2.2.2.2.1)] ++ savW k sa (res.2.2.2.2.2.2.2.2.2.2.2)) ++ poolW k pp (res.2.2.2.2.2.2.2.2.1).2) H locs → lv_has ls 9 [(0, .ref b), (1, .ref (a_p1 0)), (2, .ref (a_p2 0)), (3, .ref (a_p3 0)), (4, .int v4)] → W p l e room_1 s m #[Value.ref b] below meth c H locs cells slots Q (F0 m 2474 ls [])) :
    W p l e room_1 s m #[Value.ref b] below meth c H locs c0 s0 Q (F0 m 940 ls []) := by
  unfold f_law_16 at hf
  refine k_aload_n E hl 1 dL_law_940 rfl ?_
  refine k_aload_n E hl 0 dL_law_941 rfl ?_
  refine k_iload E hl 4 dL_law_942 rfl ?_
  refine lv_iconst (v := (1 : Int32)) E.hx E.hb dL_law_944 ic_1 ?_
  refine lv_iadd E.hx E.hb dL_law_945 ?_
  obtain ⟨hin, hf⟩ := oI hf
  obtain ⟨x_1, ex_1, hf⟩ := oL hf
  refine va_sld E.hx E.hb hX hbl hbA hW.2.2 hin dL_law_946 ?_
  refine k_topi ex_1 ?_
  refine k_aload_n E hl 3 dL_law_947 rfl ?_
  obtain ⟨p3_2, r_3, hg, hf⟩ := ob2 hf
  refine k_callSXi (As := [.ref (a_p1 0), .int x_1, .ref (a_p3 0)]) (rest := []) (ws2 := fun u => (List.flatten [wMCo k a_p1 (a_p1in 0) (a_p1ou 0) (a_p1ru 0) (a_p1no 0) (a_p1fo 0) (a_p1rd 0) (a_p1pa 0) (svV sa_0 so_0) p1_0, wBytes k a_p1in 600 p1in_0, wBytes k a_p1ou 1024 p1ou_0, wRules k a_p1ru p1ru_0, wCourt k a_p1no p1no_0, wCourt k a_p1fo p1fo_0, wReader k a_p1rd (a_p1in 0) (a_p1fo 0) (a_p1rr 0) p1rd_0, wRules k a_p1rr p1rr_0, wPast k a_p1pa pp_0 p1pa_0, wModel k a_p2 p2_0, wJArr k a_p3 1 (u)] ++ savW k sa_0 so_0) ++ poolW k pp_0 p1pa_0.2) (c_L_evidence n l k hN hx a_p1 a_p1in a_p1ou a_p1ru a_p1no a_p1fo a_p1rd a_p1pa a_p3 (svV sa_0 so_0) p1_0 p1no_0 1 p3_0 x_1 (p3_2, r_3) hg) E sw_181 rfl dL_law_948 rfl (posOf [1, 2, 2, 3, 12, 12, 1, 3, 2, 13, 1] [0, 4, 10]) hW hA hl rfl (law_map (ln := [1, 2, 2, 3, 12, 12, 1, 3, 2, 13, 1]) (is := [0, 4, 10]) (cs := [wMCo k a_p1 (a_p1in 0) (a_p1ou 0) (a_p1ru 0) (a_p1no 0) (a_p1fo 0) (a_p1rd 0) (a_p1pa 0) (svV sa_0 so_0) p1_0, wCourt k a_p1no p1no_0, wJArr k a_p3 1 p3_0]) (fl3 _ _ _) rfl (by decide) rfl) ⟨Nat.le_of_ble_eq_true rfl, Nat.le_of_ble_eq_true rfl⟩ ⟨by show _ ≤ 601024; omega, by show _ ≤ 7293034; omega⟩ (Nat.le_of_ble_eq_true rfl) rfl (fun _ => rfl) (fun u => law_put (ln := [1, 2, 2, 3, 12, 12, 1, 3, 2, 13, 1]) (is := [0, 4, 10]) (cs0 := [wMCo k a_p1 (a_p1in 0) (a_p1ou 0) (a_p1ru 0) (a_p1no 0) (a_p1fo 0) (a_p1rd 0) (a_p1pa 0) (svV sa_0 so_0) p1_0, wCourt k a_p1no p1no_0, wJArr k a_p3 1 p3_0]) (cs := [wMCo k a_p1 (a_p1in 0) (a_p1ou 0) (a_p1ru 0) (a_p1no 0) (a_p1fo 0) (a_p1rd 0) (a_p1pa 0) (svV sa_0 so_0) p1_0, wCourt k a_p1no p1no_0, wJArr k a_p3 1 (u)]) (fl3 _ _ _) rfl (by decide) rfl rfl) (fun r u H locs hp hW => ?_)
  cases hp
  have hW : WD k A s.heap ((List.flatten [wMCo k a_p1 (a_p1in 0) (a_p1ou 0) (a_p1ru 0) (a_p1no 0) (a_p1fo 0) (a_p1rd 0) (a_p1pa 0) (svV sa_0 so_0) p1_0, wBytes k a_p1in 600 p1in_0, wBytes k a_p1ou 1024 p1ou_0, wRules k a_p1ru p1ru_0, wCourt k a_p1no p1no_0, wCourt k a_p1fo p1fo_0, wReader k a_p1rd (a_p1in 0) (a_p1fo 0) (a_p1rr 0) p1rd_0, wRules k a_p1rr p1rr_0, wPast k a_p1pa pp_0 p1pa_0, wModel k a_p2 p2_0, wJArr k a_p3 1 p3_2] ++ savW k sa_0 so_0) ++ poolW k pp_0 p1pa_0.2) H locs := hW
  refine k_istore (lv' := [(5, .int r_3), (0, .ref b), (1, .ref (a_p1 0)), (2, .ref (a_p2 0)), (3, .ref (a_p3 0)), (4, .int v4)]) E rfl hl dL_law_951 (by decide) rfl (fun ls hl => ?_)
  refine k_aload_n E hl 3 dL_law_953 rfl ?_
  refine k_aload_n E hl 1 dL_law_954 rfl ?_
  refine k_iload E hl 5 dL_law_955 rfl ?_
  refine lv_iconst (v := (1 : Int32)) E.hx E.hb dL_law_957 ic_1 ?_
  refine lv_iadd E.hx E.hb dL_law_958 ?_
  obtain ⟨hin, hf⟩ := oI hf
  obtain ⟨x_4, ex_4, hf⟩ := oL hf
  refine va_sld E.hx E.hb hX hbl hbA hW.2.2 hin dL_law_959 ?_
  refine k_topi ex_4 ?_
  obtain ⟨p2_5, r_6, hg, hf⟩ := ob2 hf
  refine k_callVi (As := [.int x_4]) (rest := []) (ws2 := fun u => (List.flatten [wMCo k a_p1 (a_p1in 0) (a_p1ou 0) (a_p1ru 0) (a_p1no 0) (a_p1fo 0) (a_p1rd 0) (a_p1pa 0) (svV sa_0 so_0) p1_0, wBytes k a_p1in 600 p1in_0, wBytes k a_p1ou 1024 p1ou_0, wRules k a_p1ru p1ru_0, wCourt k a_p1no p1no_0, wCourt k a_p1fo p1fo_0, wReader k a_p1rd (a_p1in 0) (a_p1fo 0) (a_p1rr 0) p1rd_0, wRules k a_p1rr p1rr_0, wPast k a_p1pa pp_0 p1pa_0, wModel k a_p2 (u), wJArr k a_p3 1 p3_2] ++ savW k sa_0 so_0) ++ poolW k pp_0 p1pa_0.2) (c_X9_evidence n l k a_p2 p2_0 x_4 (p2_5, r_6) hg) E vl_L_183 dL_law_960 rfl (posOf [1, 2, 2, 3, 12, 12, 1, 3, 2, 13, 1] [9]) 7 38 hW hA hl rfl (law_map (ln := [1, 2, 2, 3, 12, 12, 1, 3, 2, 13, 1]) (is := [9]) (cs := [wModel k a_p2 p2_0]) (fl1 _) rfl (by decide) rfl) rfl rfl ⟨Nat.le_of_ble_eq_true rfl, Nat.le_of_ble_eq_true rfl⟩ ⟨by show _ ≤ 601024; omega, by show _ ≤ 7293034; omega⟩ (Nat.le_of_ble_eq_true rfl) rfl (fun _ => rfl) (fun u => law_put (ln := [1, 2, 2, 3, 12, 12, 1, 3, 2, 13, 1]) (is := [9]) (cs0 := [wModel k a_p2 p2_0]) (cs := [wModel k a_p2 (u)]) (fl1 _) rfl (by decide) rfl rfl) (fun r u H locs hp hW => ?_)
  cases hp
  have hW : WD k A s.heap ((List.flatten [wMCo k a_p1 (a_p1in 0) (a_p1ou 0) (a_p1ru 0) (a_p1no 0) (a_p1fo 0) (a_p1rd 0) (a_p1pa 0) (svV sa_0 so_0) p1_0, wBytes k a_p1in 600 p1in_0, wBytes k a_p1ou 1024 p1ou_0, wRules k a_p1ru p1ru_0, wCourt k a_p1no p1no_0, wCourt k a_p1fo p1fo_0, wReader k a_p1rd (a_p1in 0) (a_p1fo 0) (a_p1rr 0) p1rd_0, wRules k a_p1rr p1rr_0, wPast k a_p1pa pp_0 p1pa_0, wModel k a_p2 p2_5, wJArr k a_p3 1 p3_2] ++ savW k sa_0 so_0) ++ poolW k pp_0 p1pa_0.2) H locs := hW
  refine k_istore (lv' := [(6, .int r_6), (5, .int r_3), (0, .ref b), (1, .ref (a_p1 0)), (2, .ref (a_p2 0)), (3, .ref (a_p3 0)), (4, .int v4)]) E rfl hl dL_law_963 (by decide) rfl (fun ls hl => ?_)
  refine k_aload_n E hl 4 dL_law_965 rfl ?_
  obtain ⟨r_7, hg, hf⟩ := ob hf
  refine k_callVi (As := []) (rest := []) (ws2 := fun u => (List.flatten [wMCo k a_p1 (a_p1in 0) (a_p1ou 0) (a_p1ru 0) (a_p1no 0) (a_p1fo 0) (a_p1rd 0) (a_p1pa 0) (svV sa_0 so_0) p1_0, wBytes k a_p1in 600 p1in_0, wBytes k a_p1ou 1024 p1ou_0, wRules k a_p1ru p1ru_0, wCourt k a_p1no p1no_0, wCourt k a_p1fo p1fo_0, wReader k a_p1rd (a_p1in 0) (a_p1fo 0) (a_p1rr 0) p1rd_0, wRules k a_p1rr p1rr_0, wPast k a_p1pa pp_0 p1pa_0, wModel k a_p2 p2_5, wJArr k a_p3 1 p3_2] ++ savW k sa_0 so_0) ++ poolW k pp_0 p1pa_0.2) (c_X9_thrown n l k a_p2 p2_5 r_7 hg) E vl_L_152 dL_law_966 rfl (posOf [1, 2, 2, 3, 12, 12, 1, 3, 2, 13, 1] [9]) 7 38 hW hA hl rfl (law_map (ln := [1, 2, 2, 3, 12, 12, 1, 3, 2, 13, 1]) (is := [9]) (cs := [wModel k a_p2 p2_5]) (fl1 _) rfl (by decide) rfl) rfl rfl ⟨Nat.le_of_ble_eq_true rfl, Nat.le_of_ble_eq_true rfl⟩ ⟨by show _ ≤ 601024; omega, by show _ ≤ 7293034; omega⟩ (Nat.le_of_ble_eq_true rfl) rfl (fun _ => rfl) (fun u => law_put (ln := [1, 2, 2, 3, 12, 12, 1, 3, 2, 13, 1]) (is := [9]) (cs0 := [wModel k a_p2 p2_5]) (cs := [wModel k a_p2 p2_5]) (fl1 _) rfl (by decide) rfl rfl) (fun r u H locs hp hW => ?_)
  cases hp
  have hW : WD k A s.heap ((List.flatten [wMCo k a_p1 (a_p1in 0) (a_p1ou 0) (a_p1ru 0) (a_p1no 0) (a_p1fo 0) (a_p1rd 0) (a_p1pa 0) (svV sa_0 so_0) p1_0, wBytes k a_p1in 600 p1in_0, wBytes k a_p1ou 1024 p1ou_0, wRules k a_p1ru p1ru_0, wCourt k a_p1no p1no_0, wCourt k a_p1fo p1fo_0, wReader k a_p1rd (a_p1in 0) (a_p1fo 0) (a_p1rr 0) p1rd_0, wRules k a_p1rr p1rr_0, wPast k a_p1pa pp_0 p1pa_0, wModel k a_p2 p2_5, wJArr k a_p3 1 p3_2] ++ savW k sa_0 so_0) ++ poolW k pp_0 p1pa_0.2) H locs := hW
  refine k_iload E hl 1 dL_law_969 rfl ?_
  refine lv_icmp_eq (tgt := 976) E.hx E.hb dL_law_971 (by decide) (fun hc => ?_) (fun hc => ?_)
  · have hf := oT hc hf
    refine k_iload E hl 1 dL_law_976 rfl ?_
    refine lv_if_ne (tgt := 993) E.hx E.hb dL_law_978 (by decide) (fun hc => ?_) (fun hc => ?_)
    · have hf := oF hc hf
      refine lv_goto (tgt := 2474) E.hx E.hb dL_law_993 (by decide) ?_
      exact hgo pp_0 sa_0 _ _ _ _ _ (by omega) (by omega) (by cases hf; exact hW) (lv_sub hl [2, 3, 4, 5, 6] rfl)
    · have hf := oT hc hf
      refine k_aload_n E hl 5 dL_law_981 rfl ?_
      refine lv_iconst (v := (0 : Int32)) E.hx E.hb dL_law_982 ic_0 ?_
      obtain ⟨hin, hf⟩ := oI hf
      obtain ⟨x_8, ex_8, hf⟩ := oL hf
      refine k_lald E hW 51 rfl hin dL_law_983 ?_
      refine k_topl ex_8 ?_
      refine k_iload E hl 0 dL_law_984 rfl ?_
      refine lv_i2l (v := (r_6).toInt64) E.hx E.hb dL_law_986 rfl ?_
      refine W.lcmp E.hx E.hb dL_law_987 ?_
      refine lv_if_eq (tgt := 993) E.hx E.hb dL_law_988 (by decide) (fun hc => ?_) (fun hc => ?_)
      · have hf := oT hc hf
        refine lv_goto (tgt := 2474) E.hx E.hb dL_law_993 (by decide) ?_
        exact hgo pp_0 sa_0 _ _ _ _ _ (by omega) (by omega) (by cases hf; exact hW) (lv_sub hl [2, 3, 4, 5, 6] rfl)
      · have hf := oF hc hf
        refine lv_iconst (v := (0 : Int32)) E.hx E.hb dL_law_991 ic_0 ?_
        exact o0 hf
  · have hf := oF hc hf
    refine lv_iconst (v := (0 : Int32)) E.hx E.hb dL_law_974 ic_0 ?_
    exact o0 hf
def f_law_17 (n : Nat) (L : Nat) (xs : Nat → Int32) (v4 : Int32) (sv_0 : Value) (p1_0 : OS) (p1in_0 : OS) (p1ou_0 : OS) (p1ru_0 : OS) (p1no_0 : OS) (p1fo_0 : OS) (p1rd_0 : OS) (p1rr_0 : OS) (p1pa_0 : PS) (p2_0 : OS) (p3_0 : Nat → Int64) (so_0 : Option OS) : Option LST :=
  gI L (v4 + (1 : Int32)) (Let (xs (v4 + (1 : Int32)).toNatClampNeg) (fun x_1 : Int32 =>
  gI L (v4 + (2 : Int32)) (Let (xs (v4 + (2 : Int32)).toNatClampNeg) (fun x_2 : Int32 =>
  bnd2 (f_L_wasStalled n sv_0 p1_0 p1ru_0 p1no_0 1 p3_0 x_1 x_2) (fun (p3_3 : Nat → Int64) (r_4 : Int32) =>
  gI L (v4 + (1 : Int32)) (Let (xs (v4 + (1 : Int32)).toNatClampNeg) (fun x_5 : Int32 =>
  gI L (v4 + (2 : Int32)) (Let (xs (v4 + (2 : Int32)).toNatClampNeg) (fun x_6 : Int32 =>
  bnd2 (f_X9_wasStalled n p2_0 x_5 x_6) (fun (p2_7 : OS) (r_8 : Int32) =>
  bnd (f_X9_thrown n p2_7) (fun (r_9 : Int32) =>
  if r_9 = r_4 then (
  if r_4 = 0 then (
  gI 1 (0 : Int32) (Let (p3_3 (0 : Int32).toNatClampNeg) (fun x_10 : Int64 =>
  if r_8 = 0 then (
  if (lg_cmp x_10 (0 : Int64)) = 0 then (
  some (p1_0, p1in_0, p1ou_0, p1ru_0, p1no_0, p1fo_0, p1rd_0, p1rr_0, p1pa_0, p2_7, p3_3, so_0)) else (
  none)) else (
  if (lg_cmp x_10 (1 : Int64)) = 0 then (
  some (p1_0, p1in_0, p1ou_0, p1ru_0, p1no_0, p1fo_0, p1rd_0, p1rr_0, p1pa_0, p2_7, p3_3, so_0)) else (
  none))))) else (
  some (p1_0, p1in_0, p1ou_0, p1ru_0, p1no_0, p1fo_0, p1rd_0, p1rr_0, p1pa_0, p2_7, p3_3, so_0))) else (
  none))))))))))))
set_option maxHeartbeats 4000000 in
set_option maxRecDepth 100000 in
theorem c_law_17 {p : Program} {l : Launch} {e : Env} {s : State} {m : MethodId} {below : List Frame} {meth : Method} {c : Code} {A : Nat → Prop} {Q : State → Prop} {b L : Nat} {xs : Nat → Int32} {k : KT} (n : Nat) (hE : EH k) (hx : XH l k) (hN : CCH k) (E : E0 p s m c cL_law 9 RL k A) (hX : va_X b L xs s s.heap) (hbl : b < s.heap.size) (hbA : ¬ A b) (hA : ∀ q : Nat, s.heap.size ≤ q → A q) (a_p1 : Nat → Nat) (a_p1in : Nat → Nat) (a_p1ou : Nat → Nat) (a_p1ru : Nat → Nat) (a_p1no : Nat → Nat) (a_p1fo : Nat → Nat) (a_p1rd : Nat → Nat) (a_p1rr : Nat → Nat) (a_p1pa : Nat → Nat) (a_p2 : Nat → Nat) (a_p3 : Nat → Nat) (pp_0 : Nat → Nat → Nat) (sa_0 : Nat → Nat) (v4 : Int32) (p1_0 : OS) (p1in_0 : OS) (p1ou_0 : OS) (p1ru_0 : OS) (p1no_0 : OS) (p1fo_0 : OS) (p1rd_0 : OS) (p1rr_0 : OS) (p1pa_0 : PS) (p2_0 : OS) (p3_0 : Nat → Int64) (so_0 : Option OS) (res : LST) (hf : f_law_17 n L xs v4 (svV sa_0 so_0) p1_0 p1in_0 p1ou_0 p1ru_0 p1no_0 p1fo_0 p1rd_0 p1rr_0 p1pa_0 p2_0 p3_0 so_0 = some res)
    (H : Heap) (locs : List Loc) (ls : Array Slot) (c0 s0 : Nat) (hc0 : c0 + 40 ≤ 601024) (hs0 : s0 + 8000 ≤ 7293034) (hW : WD k A s.heap ((List.flatten [wMCo k a_p1 (a_p1in 0) (a_p1ou 0) (a_p1ru 0) (a_p1no 0) (a_p1fo 0) (a_p1rd 0) (a_p1pa 0) (svV sa_0 so_0) p1_0, wBytes k a_p1in 600 p1in_0, wBytes k a_p1ou 1024 p1ou_0, wRules k a_p1ru p1ru_0, wCourt k a_p1no p1no_0, wCourt k a_p1fo p1fo_0, wReader k a_p1rd (a_p1in 0) (a_p1fo 0) (a_p1rr 0) p1rd_0, wRules k a_p1rr p1rr_0, wPast k a_p1pa pp_0 p1pa_0, wModel k a_p2 p2_0, wJArr k a_p3 1 p3_0] ++ savW k sa_0 so_0) ++ poolW k pp_0 p1pa_0.2) H locs) (hl : lv_has ls 9 [(0, .ref b), (1, .ref (a_p1 0)), (2, .ref (a_p2 0)), (3, .ref (a_p3 0)), (4, .int v4)])
    (hgo : ∀ (pp : Nat → Nat → Nat) (sa : Nat → Nat) (H : Heap) (locs : List Loc) (ls : Array Slot) (cells slots : Nat), cells ≤ c0 + 40 → slots ≤ s0 + 8000 → WD k A s.heap ((List.flatten [wMCo k a_p1 (a_p1in 0) (a_p1ou 0) (a_p1ru 0) (a_p1no 0) (a_p1fo 0) (a_p1rd 0) (a_p1pa 0) (svV sa (res.2.2.2.2.2.2.2.2.2.2.2)) (res.1), wBytes k a_p1in 600 (res.2.1), wBytes k a_p1ou 1024 (res.2.2.1), wRules k a_p1ru (res.2.2.2.1), wCourt k a_p1no (res.2.2.2.2.1), wCourt k a_p1fo (res.2.2.2.2.2.1), wReader k a_p1rd (a_p1in 0) (a_p1fo 0) (a_p1rr 0) (res.2.2.2.2.2.2.1), wRules k a_p1rr (res.2.2.2.2.2.2.2.1), wPast k a_p1pa pp (res.2.2.2.2.2.2.2.2.1), wModel k a_p2 (res.2.2.2.2.2.2.2.2.2.1), wJArr k a_p3 1 (res.2.2.2.2.2.2.2.2.2.2.1)] ++ savW k sa (res.2.2.2.2.2.2.2.2.2.2.2)) ++ poolW k pp (res.2.2.2.2.2.2.2.2.1).2) H locs → lv_has ls 9 [(0, .ref b), (1, .ref (a_p1 0)), (2, .ref (a_p2 0)), (3, .ref (a_p3 0)), (4, .int v4)] → W p l e room_1 s m #[Value.ref b] below meth c H locs cells slots Q (F0 m 2474 ls [])) :
    W p l e room_1 s m #[Value.ref b] below meth c H locs c0 s0 Q (F0 m 996 ls []) := by
  unfold f_law_17 at hf
  refine k_aload_n E hl 1 dL_law_996 rfl ?_
  refine k_aload_n E hl 0 dL_law_997 rfl ?_
  refine k_iload E hl 4 dL_law_998 rfl ?_
  refine lv_iconst (v := (1 : Int32)) E.hx E.hb dL_law_1000 ic_1 ?_
  refine lv_iadd E.hx E.hb dL_law_1001 ?_
  obtain ⟨hin, hf⟩ := oI hf
  obtain ⟨x_1, ex_1, hf⟩ := oL hf
  refine va_sld E.hx E.hb hX hbl hbA hW.2.2 hin dL_law_1002 ?_
  refine k_topi ex_1 ?_
  refine k_aload_n E hl 0 dL_law_1003 rfl ?_
  refine k_iload E hl 4 dL_law_1004 rfl ?_
  refine lv_iconst (v := (2 : Int32)) E.hx E.hb dL_law_1006 ic_2 ?_
  refine lv_iadd E.hx E.hb dL_law_1007 ?_
  obtain ⟨hin, hf⟩ := oI hf
  obtain ⟨x_2, ex_2, hf⟩ := oL hf
  refine va_sld E.hx E.hb hX hbl hbA hW.2.2 hin dL_law_1008 ?_
  refine k_topi ex_2 ?_
  refine k_aload_n E hl 3 dL_law_1009 rfl ?_
  obtain ⟨p3_3, r_4, hg, hf⟩ := ob2 hf
  refine k_callSXi (As := [.ref (a_p1 0), .int x_1, .int x_2, .ref (a_p3 0)]) (rest := []) (ws2 := fun u => (List.flatten [wMCo k a_p1 (a_p1in 0) (a_p1ou 0) (a_p1ru 0) (a_p1no 0) (a_p1fo 0) (a_p1rd 0) (a_p1pa 0) (svV sa_0 so_0) p1_0, wBytes k a_p1in 600 p1in_0, wBytes k a_p1ou 1024 p1ou_0, wRules k a_p1ru p1ru_0, wCourt k a_p1no p1no_0, wCourt k a_p1fo p1fo_0, wReader k a_p1rd (a_p1in 0) (a_p1fo 0) (a_p1rr 0) p1rd_0, wRules k a_p1rr p1rr_0, wPast k a_p1pa pp_0 p1pa_0, wModel k a_p2 p2_0, wJArr k a_p3 1 (u)] ++ savW k sa_0 so_0) ++ poolW k pp_0 p1pa_0.2) (c_L_wasStalled n l k hN hx a_p1 a_p1in a_p1ou a_p1ru a_p1no a_p1fo a_p1rd a_p1pa a_p3 (svV sa_0 so_0) p1_0 p1ru_0 p1no_0 1 p3_0 x_1 x_2 (p3_3, r_4) hg) E sw_184 rfl dL_law_1010 rfl (posOf [1, 2, 2, 3, 12, 12, 1, 3, 2, 13, 1] [0, 3, 4, 10]) hW hA hl rfl (law_map (ln := [1, 2, 2, 3, 12, 12, 1, 3, 2, 13, 1]) (is := [0, 3, 4, 10]) (cs := [wMCo k a_p1 (a_p1in 0) (a_p1ou 0) (a_p1ru 0) (a_p1no 0) (a_p1fo 0) (a_p1rd 0) (a_p1pa 0) (svV sa_0 so_0) p1_0, wRules k a_p1ru p1ru_0, wCourt k a_p1no p1no_0, wJArr k a_p3 1 p3_0]) (fl4 _ _ _ _) rfl (by decide) rfl) ⟨Nat.le_of_ble_eq_true rfl, Nat.le_of_ble_eq_true rfl⟩ ⟨by show _ ≤ 601024; omega, by show _ ≤ 7293034; omega⟩ (Nat.le_of_ble_eq_true rfl) rfl (fun _ => rfl) (fun u => law_put (ln := [1, 2, 2, 3, 12, 12, 1, 3, 2, 13, 1]) (is := [0, 3, 4, 10]) (cs0 := [wMCo k a_p1 (a_p1in 0) (a_p1ou 0) (a_p1ru 0) (a_p1no 0) (a_p1fo 0) (a_p1rd 0) (a_p1pa 0) (svV sa_0 so_0) p1_0, wRules k a_p1ru p1ru_0, wCourt k a_p1no p1no_0, wJArr k a_p3 1 p3_0]) (cs := [wMCo k a_p1 (a_p1in 0) (a_p1ou 0) (a_p1ru 0) (a_p1no 0) (a_p1fo 0) (a_p1rd 0) (a_p1pa 0) (svV sa_0 so_0) p1_0, wRules k a_p1ru p1ru_0, wCourt k a_p1no p1no_0, wJArr k a_p3 1 (u)]) (fl4 _ _ _ _) rfl (by decide) rfl rfl) (fun r u H locs hp hW => ?_)
  cases hp
  have hW : WD k A s.heap ((List.flatten [wMCo k a_p1 (a_p1in 0) (a_p1ou 0) (a_p1ru 0) (a_p1no 0) (a_p1fo 0) (a_p1rd 0) (a_p1pa 0) (svV sa_0 so_0) p1_0, wBytes k a_p1in 600 p1in_0, wBytes k a_p1ou 1024 p1ou_0, wRules k a_p1ru p1ru_0, wCourt k a_p1no p1no_0, wCourt k a_p1fo p1fo_0, wReader k a_p1rd (a_p1in 0) (a_p1fo 0) (a_p1rr 0) p1rd_0, wRules k a_p1rr p1rr_0, wPast k a_p1pa pp_0 p1pa_0, wModel k a_p2 p2_0, wJArr k a_p3 1 p3_3] ++ savW k sa_0 so_0) ++ poolW k pp_0 p1pa_0.2) H locs := hW
  refine k_istore (lv' := [(5, .int r_4), (0, .ref b), (1, .ref (a_p1 0)), (2, .ref (a_p2 0)), (3, .ref (a_p3 0)), (4, .int v4)]) E rfl hl dL_law_1013 (by decide) rfl (fun ls hl => ?_)
  refine k_aload_n E hl 3 dL_law_1015 rfl ?_
  refine k_aload_n E hl 1 dL_law_1016 rfl ?_
  refine k_iload E hl 5 dL_law_1017 rfl ?_
  refine lv_iconst (v := (1 : Int32)) E.hx E.hb dL_law_1019 ic_1 ?_
  refine lv_iadd E.hx E.hb dL_law_1020 ?_
  obtain ⟨hin, hf⟩ := oI hf
  obtain ⟨x_5, ex_5, hf⟩ := oL hf
  refine va_sld E.hx E.hb hX hbl hbA hW.2.2 hin dL_law_1021 ?_
  refine k_topi ex_5 ?_
  refine k_aload_n E hl 1 dL_law_1022 rfl ?_
  refine k_iload E hl 5 dL_law_1023 rfl ?_
  refine lv_iconst (v := (2 : Int32)) E.hx E.hb dL_law_1025 ic_2 ?_
  refine lv_iadd E.hx E.hb dL_law_1026 ?_
  obtain ⟨hin, hf⟩ := oI hf
  obtain ⟨x_6, ex_6, hf⟩ := oL hf
  refine va_sld E.hx E.hb hX hbl hbA hW.2.2 hin dL_law_1027 ?_
  refine k_topi ex_6 ?_
  obtain ⟨p2_7, r_8, hg, hf⟩ := ob2 hf
  refine k_callVi (As := [.int x_5, .int x_6]) (rest := []) (ws2 := fun u => (List.flatten [wMCo k a_p1 (a_p1in 0) (a_p1ou 0) (a_p1ru 0) (a_p1no 0) (a_p1fo 0) (a_p1rd 0) (a_p1pa 0) (svV sa_0 so_0) p1_0, wBytes k a_p1in 600 p1in_0, wBytes k a_p1ou 1024 p1ou_0, wRules k a_p1ru p1ru_0, wCourt k a_p1no p1no_0, wCourt k a_p1fo p1fo_0, wReader k a_p1rd (a_p1in 0) (a_p1fo 0) (a_p1rr 0) p1rd_0, wRules k a_p1rr p1rr_0, wPast k a_p1pa pp_0 p1pa_0, wModel k a_p2 (u), wJArr k a_p3 1 p3_3] ++ savW k sa_0 so_0) ++ poolW k pp_0 p1pa_0.2) (c_X9_wasStalled n l k a_p2 p2_0 x_5 x_6 (p2_7, r_8) hg) E vl_L_186 dL_law_1028 rfl (posOf [1, 2, 2, 3, 12, 12, 1, 3, 2, 13, 1] [9]) 7 38 hW hA hl rfl (law_map (ln := [1, 2, 2, 3, 12, 12, 1, 3, 2, 13, 1]) (is := [9]) (cs := [wModel k a_p2 p2_0]) (fl1 _) rfl (by decide) rfl) rfl rfl ⟨Nat.le_of_ble_eq_true rfl, Nat.le_of_ble_eq_true rfl⟩ ⟨by show _ ≤ 601024; omega, by show _ ≤ 7293034; omega⟩ (Nat.le_of_ble_eq_true rfl) rfl (fun _ => rfl) (fun u => law_put (ln := [1, 2, 2, 3, 12, 12, 1, 3, 2, 13, 1]) (is := [9]) (cs0 := [wModel k a_p2 p2_0]) (cs := [wModel k a_p2 (u)]) (fl1 _) rfl (by decide) rfl rfl) (fun r u H locs hp hW => ?_)
  cases hp
  have hW : WD k A s.heap ((List.flatten [wMCo k a_p1 (a_p1in 0) (a_p1ou 0) (a_p1ru 0) (a_p1no 0) (a_p1fo 0) (a_p1rd 0) (a_p1pa 0) (svV sa_0 so_0) p1_0, wBytes k a_p1in 600 p1in_0, wBytes k a_p1ou 1024 p1ou_0, wRules k a_p1ru p1ru_0, wCourt k a_p1no p1no_0, wCourt k a_p1fo p1fo_0, wReader k a_p1rd (a_p1in 0) (a_p1fo 0) (a_p1rr 0) p1rd_0, wRules k a_p1rr p1rr_0, wPast k a_p1pa pp_0 p1pa_0, wModel k a_p2 p2_7, wJArr k a_p3 1 p3_3] ++ savW k sa_0 so_0) ++ poolW k pp_0 p1pa_0.2) H locs := hW
  refine k_istore (lv' := [(6, .int r_8), (5, .int r_4), (0, .ref b), (1, .ref (a_p1 0)), (2, .ref (a_p2 0)), (3, .ref (a_p3 0)), (4, .int v4)]) E rfl hl dL_law_1031 (by decide) rfl (fun ls hl => ?_)
  refine k_aload_n E hl 4 dL_law_1033 rfl ?_
  obtain ⟨r_9, hg, hf⟩ := ob hf
  refine k_callVi (As := []) (rest := []) (ws2 := fun u => (List.flatten [wMCo k a_p1 (a_p1in 0) (a_p1ou 0) (a_p1ru 0) (a_p1no 0) (a_p1fo 0) (a_p1rd 0) (a_p1pa 0) (svV sa_0 so_0) p1_0, wBytes k a_p1in 600 p1in_0, wBytes k a_p1ou 1024 p1ou_0, wRules k a_p1ru p1ru_0, wCourt k a_p1no p1no_0, wCourt k a_p1fo p1fo_0, wReader k a_p1rd (a_p1in 0) (a_p1fo 0) (a_p1rr 0) p1rd_0, wRules k a_p1rr p1rr_0, wPast k a_p1pa pp_0 p1pa_0, wModel k a_p2 p2_7, wJArr k a_p3 1 p3_3] ++ savW k sa_0 so_0) ++ poolW k pp_0 p1pa_0.2) (c_X9_thrown n l k a_p2 p2_7 r_9 hg) E vl_L_152 dL_law_1034 rfl (posOf [1, 2, 2, 3, 12, 12, 1, 3, 2, 13, 1] [9]) 7 38 hW hA hl rfl (law_map (ln := [1, 2, 2, 3, 12, 12, 1, 3, 2, 13, 1]) (is := [9]) (cs := [wModel k a_p2 p2_7]) (fl1 _) rfl (by decide) rfl) rfl rfl ⟨Nat.le_of_ble_eq_true rfl, Nat.le_of_ble_eq_true rfl⟩ ⟨by show _ ≤ 601024; omega, by show _ ≤ 7293034; omega⟩ (Nat.le_of_ble_eq_true rfl) rfl (fun _ => rfl) (fun u => law_put (ln := [1, 2, 2, 3, 12, 12, 1, 3, 2, 13, 1]) (is := [9]) (cs0 := [wModel k a_p2 p2_7]) (cs := [wModel k a_p2 p2_7]) (fl1 _) rfl (by decide) rfl rfl) (fun r u H locs hp hW => ?_)
  cases hp
  have hW : WD k A s.heap ((List.flatten [wMCo k a_p1 (a_p1in 0) (a_p1ou 0) (a_p1ru 0) (a_p1no 0) (a_p1fo 0) (a_p1rd 0) (a_p1pa 0) (svV sa_0 so_0) p1_0, wBytes k a_p1in 600 p1in_0, wBytes k a_p1ou 1024 p1ou_0, wRules k a_p1ru p1ru_0, wCourt k a_p1no p1no_0, wCourt k a_p1fo p1fo_0, wReader k a_p1rd (a_p1in 0) (a_p1fo 0) (a_p1rr 0) p1rd_0, wRules k a_p1rr p1rr_0, wPast k a_p1pa pp_0 p1pa_0, wModel k a_p2 p2_7, wJArr k a_p3 1 p3_3] ++ savW k sa_0 so_0) ++ poolW k pp_0 p1pa_0.2) H locs := hW
  refine k_iload E hl 1 dL_law_1037 rfl ?_
  refine lv_icmp_eq (tgt := 1044) E.hx E.hb dL_law_1039 (by decide) (fun hc => ?_) (fun hc => ?_)
  · have hf := oT hc hf
    refine k_iload E hl 1 dL_law_1044 rfl ?_
    refine lv_if_ne (tgt := 1068) E.hx E.hb dL_law_1046 (by decide) (fun hc => ?_) (fun hc => ?_)
    · have hf := oF hc hf
      refine lv_goto (tgt := 2474) E.hx E.hb dL_law_1068 (by decide) ?_
      exact hgo pp_0 sa_0 _ _ _ _ _ (by omega) (by omega) (by cases hf; exact hW) (lv_sub hl [2, 3, 4, 5, 6] rfl)
    · have hf := oT hc hf
      refine k_aload_n E hl 5 dL_law_1049 rfl ?_
      refine lv_iconst (v := (0 : Int32)) E.hx E.hb dL_law_1050 ic_0 ?_
      obtain ⟨hin, hf⟩ := oI hf
      obtain ⟨x_10, ex_10, hf⟩ := oL hf
      refine k_lald E hW 51 rfl hin dL_law_1051 ?_
      refine k_topl ex_10 ?_
      refine k_iload E hl 0 dL_law_1052 rfl ?_
      refine lv_if_eq (tgt := 1061) E.hx E.hb dL_law_1054 (by decide) (fun hc => ?_) (fun hc => ?_)
      · have hf := oT hc hf
        refine lv_lconst (v := (0 : Int64)) E.hx E.hb dL_law_1061 (by decide) ?_
        refine W.lcmp E.hx E.hb dL_law_1062 ?_
        refine lv_if_eq (tgt := 1068) E.hx E.hb dL_law_1063 (by decide) (fun hc => ?_) (fun hc => ?_)
        · have hf := oT hc hf
          refine lv_goto (tgt := 2474) E.hx E.hb dL_law_1068 (by decide) ?_
          exact hgo pp_0 sa_0 _ _ _ _ _ (by omega) (by omega) (by cases hf; exact hW) (lv_sub hl [2, 3, 4, 5, 6] rfl)
        · have hf := oF hc hf
          refine lv_iconst (v := (0 : Int32)) E.hx E.hb dL_law_1066 ic_0 ?_
          exact o0 hf
      · have hf := oF hc hf
        refine lv_lconst (v := (1 : Int64)) E.hx E.hb dL_law_1057 (by decide) ?_
        refine lv_goto (tgt := 1062) E.hx E.hb dL_law_1058 (by decide) ?_
        refine W.lcmp E.hx E.hb dL_law_1062 ?_
        refine lv_if_eq (tgt := 1068) E.hx E.hb dL_law_1063 (by decide) (fun hc => ?_) (fun hc => ?_)
        · have hf := oT hc hf
          refine lv_goto (tgt := 2474) E.hx E.hb dL_law_1068 (by decide) ?_
          exact hgo pp_0 sa_0 _ _ _ _ _ (by omega) (by omega) (by cases hf; exact hW) (lv_sub hl [2, 3, 4, 5, 6] rfl)
        · have hf := oF hc hf
          refine lv_iconst (v := (0 : Int32)) E.hx E.hb dL_law_1066 ic_0 ?_
          exact o0 hf
  · have hf := oF hc hf
    refine lv_iconst (v := (0 : Int32)) E.hx E.hb dL_law_1042 ic_0 ?_
    exact o0 hf
def f_law_18 (n : Nat) (L : Nat) (xs : Nat → Int32) (v4 : Int32) (sv_0 : Value) (p1_0 : OS) (p1in_0 : OS) (p1ou_0 : OS) (p1ru_0 : OS) (p1no_0 : OS) (p1fo_0 : OS) (p1rd_0 : OS) (p1rr_0 : OS) (p1pa_0 : PS) (p2_0 : OS) (p3_0 : Nat → Int64) (so_0 : Option OS) : Option LST :=
  bnd (f_X8_nextHearing n sv_0 p1_0 p1ru_0 p1no_0) (fun (r_1 : Int32) =>
  bnd2 (f_X9_nextHearing n p2_0) (fun (p2_2 : OS) (r_3 : Int32) =>
  if r_1 = r_3 then (
  some (p1_0, p1in_0, p1ou_0, p1ru_0, p1no_0, p1fo_0, p1rd_0, p1rr_0, p1pa_0, p2_2, p3_0, so_0)) else (
  none)))
set_option maxHeartbeats 4000000 in
set_option maxRecDepth 100000 in
theorem c_law_18 {p : Program} {l : Launch} {e : Env} {s : State} {m : MethodId} {below : List Frame} {meth : Method} {c : Code} {A : Nat → Prop} {Q : State → Prop} {b L : Nat} {xs : Nat → Int32} {k : KT} (n : Nat) (hE : EH k) (hx : XH l k) (hN : CCH k) (E : E0 p s m c cL_law 9 RL k A) (hX : va_X b L xs s s.heap) (hbl : b < s.heap.size) (hbA : ¬ A b) (hA : ∀ q : Nat, s.heap.size ≤ q → A q) (a_p1 : Nat → Nat) (a_p1in : Nat → Nat) (a_p1ou : Nat → Nat) (a_p1ru : Nat → Nat) (a_p1no : Nat → Nat) (a_p1fo : Nat → Nat) (a_p1rd : Nat → Nat) (a_p1rr : Nat → Nat) (a_p1pa : Nat → Nat) (a_p2 : Nat → Nat) (a_p3 : Nat → Nat) (pp_0 : Nat → Nat → Nat) (sa_0 : Nat → Nat) (v4 : Int32) (p1_0 : OS) (p1in_0 : OS) (p1ou_0 : OS) (p1ru_0 : OS) (p1no_0 : OS) (p1fo_0 : OS) (p1rd_0 : OS) (p1rr_0 : OS) (p1pa_0 : PS) (p2_0 : OS) (p3_0 : Nat → Int64) (so_0 : Option OS) (res : LST) (hf : f_law_18 n L xs v4 (svV sa_0 so_0) p1_0 p1in_0 p1ou_0 p1ru_0 p1no_0 p1fo_0 p1rd_0 p1rr_0 p1pa_0 p2_0 p3_0 so_0 = some res)
    (H : Heap) (locs : List Loc) (ls : Array Slot) (c0 s0 : Nat) (hc0 : c0 + 40 ≤ 601024) (hs0 : s0 + 8000 ≤ 7293034) (hW : WD k A s.heap ((List.flatten [wMCo k a_p1 (a_p1in 0) (a_p1ou 0) (a_p1ru 0) (a_p1no 0) (a_p1fo 0) (a_p1rd 0) (a_p1pa 0) (svV sa_0 so_0) p1_0, wBytes k a_p1in 600 p1in_0, wBytes k a_p1ou 1024 p1ou_0, wRules k a_p1ru p1ru_0, wCourt k a_p1no p1no_0, wCourt k a_p1fo p1fo_0, wReader k a_p1rd (a_p1in 0) (a_p1fo 0) (a_p1rr 0) p1rd_0, wRules k a_p1rr p1rr_0, wPast k a_p1pa pp_0 p1pa_0, wModel k a_p2 p2_0, wJArr k a_p3 1 p3_0] ++ savW k sa_0 so_0) ++ poolW k pp_0 p1pa_0.2) H locs) (hl : lv_has ls 9 [(0, .ref b), (1, .ref (a_p1 0)), (2, .ref (a_p2 0)), (3, .ref (a_p3 0)), (4, .int v4)])
    (hgo : ∀ (pp : Nat → Nat → Nat) (sa : Nat → Nat) (H : Heap) (locs : List Loc) (ls : Array Slot) (cells slots : Nat), cells ≤ c0 + 40 → slots ≤ s0 + 8000 → WD k A s.heap ((List.flatten [wMCo k a_p1 (a_p1in 0) (a_p1ou 0) (a_p1ru 0) (a_p1no 0) (a_p1fo 0) (a_p1rd 0) (a_p1pa 0) (svV sa (res.2.2.2.2.2.2.2.2.2.2.2)) (res.1), wBytes k a_p1in 600 (res.2.1), wBytes k a_p1ou 1024 (res.2.2.1), wRules k a_p1ru (res.2.2.2.1), wCourt k a_p1no (res.2.2.2.2.1), wCourt k a_p1fo (res.2.2.2.2.2.1), wReader k a_p1rd (a_p1in 0) (a_p1fo 0) (a_p1rr 0) (res.2.2.2.2.2.2.1), wRules k a_p1rr (res.2.2.2.2.2.2.2.1), wPast k a_p1pa pp (res.2.2.2.2.2.2.2.2.1), wModel k a_p2 (res.2.2.2.2.2.2.2.2.2.1), wJArr k a_p3 1 (res.2.2.2.2.2.2.2.2.2.2.1)] ++ savW k sa (res.2.2.2.2.2.2.2.2.2.2.2)) ++ poolW k pp (res.2.2.2.2.2.2.2.2.1).2) H locs → lv_has ls 9 [(0, .ref b), (1, .ref (a_p1 0)), (2, .ref (a_p2 0)), (3, .ref (a_p3 0)), (4, .int v4)] → W p l e room_1 s m #[Value.ref b] below meth c H locs cells slots Q (F0 m 2474 ls [])) :
    W p l e room_1 s m #[Value.ref b] below meth c H locs c0 s0 Q (F0 m 1071 ls []) := by
  unfold f_law_18 at hf
  refine k_aload_n E hl 1 dL_law_1071 rfl ?_
  obtain ⟨r_1, hg, hf⟩ := ob hf
  refine k_callVi (As := []) (rest := []) (ws2 := fun u => (List.flatten [wMCo k a_p1 (a_p1in 0) (a_p1ou 0) (a_p1ru 0) (a_p1no 0) (a_p1fo 0) (a_p1rd 0) (a_p1pa 0) (svV sa_0 so_0) p1_0, wBytes k a_p1in 600 p1in_0, wBytes k a_p1ou 1024 p1ou_0, wRules k a_p1ru p1ru_0, wCourt k a_p1no p1no_0, wCourt k a_p1fo p1fo_0, wReader k a_p1rd (a_p1in 0) (a_p1fo 0) (a_p1rr 0) p1rd_0, wRules k a_p1rr p1rr_0, wPast k a_p1pa pp_0 p1pa_0, wModel k a_p2 p2_0, wJArr k a_p3 1 p3_0] ++ savW k sa_0 so_0) ++ poolW k pp_0 p1pa_0.2) (c_X8_nextHearing n l k a_p1 a_p1in a_p1ou a_p1ru a_p1no a_p1fo a_p1rd a_p1pa (svV sa_0 so_0) p1_0 p1ru_0 p1no_0 r_1 hg) E vl_L_187 dL_law_1072 rfl (posOf [1, 2, 2, 3, 12, 12, 1, 3, 2, 13, 1] [0, 3, 4]) 6 0 hW hA hl rfl (law_map (ln := [1, 2, 2, 3, 12, 12, 1, 3, 2, 13, 1]) (is := [0, 3, 4]) (cs := [wMCo k a_p1 (a_p1in 0) (a_p1ou 0) (a_p1ru 0) (a_p1no 0) (a_p1fo 0) (a_p1rd 0) (a_p1pa 0) (svV sa_0 so_0) p1_0, wRules k a_p1ru p1ru_0, wCourt k a_p1no p1no_0]) (fl3 _ _ _) rfl (by decide) rfl) rfl rfl ⟨Nat.le_of_ble_eq_true rfl, Nat.le_of_ble_eq_true rfl⟩ ⟨by show _ ≤ 601024; omega, by show _ ≤ 7293034; omega⟩ (Nat.le_of_ble_eq_true rfl) rfl (fun _ => rfl) (fun u => law_put (ln := [1, 2, 2, 3, 12, 12, 1, 3, 2, 13, 1]) (is := [0, 3, 4]) (cs0 := [wMCo k a_p1 (a_p1in 0) (a_p1ou 0) (a_p1ru 0) (a_p1no 0) (a_p1fo 0) (a_p1rd 0) (a_p1pa 0) (svV sa_0 so_0) p1_0, wRules k a_p1ru p1ru_0, wCourt k a_p1no p1no_0]) (cs := [wMCo k a_p1 (a_p1in 0) (a_p1ou 0) (a_p1ru 0) (a_p1no 0) (a_p1fo 0) (a_p1rd 0) (a_p1pa 0) (svV sa_0 so_0) p1_0, wRules k a_p1ru p1ru_0, wCourt k a_p1no p1no_0]) (fl3 _ _ _) rfl (by decide) rfl rfl) (fun r u H locs hp hW => ?_)
  cases hp
  have hW : WD k A s.heap ((List.flatten [wMCo k a_p1 (a_p1in 0) (a_p1ou 0) (a_p1ru 0) (a_p1no 0) (a_p1fo 0) (a_p1rd 0) (a_p1pa 0) (svV sa_0 so_0) p1_0, wBytes k a_p1in 600 p1in_0, wBytes k a_p1ou 1024 p1ou_0, wRules k a_p1ru p1ru_0, wCourt k a_p1no p1no_0, wCourt k a_p1fo p1fo_0, wReader k a_p1rd (a_p1in 0) (a_p1fo 0) (a_p1rr 0) p1rd_0, wRules k a_p1rr p1rr_0, wPast k a_p1pa pp_0 p1pa_0, wModel k a_p2 p2_0, wJArr k a_p3 1 p3_0] ++ savW k sa_0 so_0) ++ poolW k pp_0 p1pa_0.2) H locs := hW
  refine k_aload_n E hl 2 dL_law_1075 rfl ?_
  obtain ⟨p2_2, r_3, hg, hf⟩ := ob2 hf
  refine k_callVi (As := []) (rest := [.int r_1]) (ws2 := fun u => (List.flatten [wMCo k a_p1 (a_p1in 0) (a_p1ou 0) (a_p1ru 0) (a_p1no 0) (a_p1fo 0) (a_p1rd 0) (a_p1pa 0) (svV sa_0 so_0) p1_0, wBytes k a_p1in 600 p1in_0, wBytes k a_p1ou 1024 p1ou_0, wRules k a_p1ru p1ru_0, wCourt k a_p1no p1no_0, wCourt k a_p1fo p1fo_0, wReader k a_p1rd (a_p1in 0) (a_p1fo 0) (a_p1rr 0) p1rd_0, wRules k a_p1rr p1rr_0, wPast k a_p1pa pp_0 p1pa_0, wModel k a_p2 (u), wJArr k a_p3 1 p3_0] ++ savW k sa_0 so_0) ++ poolW k pp_0 p1pa_0.2) (c_X9_nextHearing n l k a_p2 p2_0 (p2_2, r_3) hg) E vl_L_190 dL_law_1076 rfl (posOf [1, 2, 2, 3, 12, 12, 1, 3, 2, 13, 1] [9]) 7 38 hW hA hl rfl (law_map (ln := [1, 2, 2, 3, 12, 12, 1, 3, 2, 13, 1]) (is := [9]) (cs := [wModel k a_p2 p2_0]) (fl1 _) rfl (by decide) rfl) rfl rfl ⟨Nat.le_of_ble_eq_true rfl, Nat.le_of_ble_eq_true rfl⟩ ⟨by show _ ≤ 601024; omega, by show _ ≤ 7293034; omega⟩ (Nat.le_of_ble_eq_true rfl) rfl (fun _ => rfl) (fun u => law_put (ln := [1, 2, 2, 3, 12, 12, 1, 3, 2, 13, 1]) (is := [9]) (cs0 := [wModel k a_p2 p2_0]) (cs := [wModel k a_p2 (u)]) (fl1 _) rfl (by decide) rfl rfl) (fun r u H locs hp hW => ?_)
  cases hp
  have hW : WD k A s.heap ((List.flatten [wMCo k a_p1 (a_p1in 0) (a_p1ou 0) (a_p1ru 0) (a_p1no 0) (a_p1fo 0) (a_p1rd 0) (a_p1pa 0) (svV sa_0 so_0) p1_0, wBytes k a_p1in 600 p1in_0, wBytes k a_p1ou 1024 p1ou_0, wRules k a_p1ru p1ru_0, wCourt k a_p1no p1no_0, wCourt k a_p1fo p1fo_0, wReader k a_p1rd (a_p1in 0) (a_p1fo 0) (a_p1rr 0) p1rd_0, wRules k a_p1rr p1rr_0, wPast k a_p1pa pp_0 p1pa_0, wModel k a_p2 p2_2, wJArr k a_p3 1 p3_0] ++ savW k sa_0 so_0) ++ poolW k pp_0 p1pa_0.2) H locs := hW
  refine lv_icmp_eq (tgt := 2474) E.hx E.hb dL_law_1079 (by decide) (fun hc => ?_) (fun hc => ?_)
  · have hf := oT hc hf
    exact hgo pp_0 sa_0 _ _ _ _ _ (by omega) (by omega) (by cases hf; exact hW) (lv_sub hl [0, 1, 2, 3, 4] rfl)
  · have hf := oF hc hf
    refine lv_iconst (v := (0 : Int32)) E.hx E.hb dL_law_1082 ic_0 ?_
    exact o0 hf
def f_law_19 (n : Nat) (L : Nat) (xs : Nat → Int32) (v4 : Int32) (sv_0 : Value) (p1_0 : OS) (p1in_0 : OS) (p1ou_0 : OS) (p1ru_0 : OS) (p1no_0 : OS) (p1fo_0 : OS) (p1rd_0 : OS) (p1rr_0 : OS) (p1pa_0 : PS) (p2_0 : OS) (p3_0 : Nat → Int64) (so_0 : Option OS) : Option LST :=
  bnd (f_X8_shortage n sv_0 p1_0 p1no_0) (fun (r_1 : Int32) =>
  bnd2 (f_X9_shortage n p2_0) (fun (p2_2 : OS) (r_3 : Int32) =>
  if r_1 = r_3 then (
  some (p1_0, p1in_0, p1ou_0, p1ru_0, p1no_0, p1fo_0, p1rd_0, p1rr_0, p1pa_0, p2_2, p3_0, so_0)) else (
  none)))
set_option maxHeartbeats 4000000 in
set_option maxRecDepth 100000 in
theorem c_law_19 {p : Program} {l : Launch} {e : Env} {s : State} {m : MethodId} {below : List Frame} {meth : Method} {c : Code} {A : Nat → Prop} {Q : State → Prop} {b L : Nat} {xs : Nat → Int32} {k : KT} (n : Nat) (hE : EH k) (hx : XH l k) (hN : CCH k) (E : E0 p s m c cL_law 9 RL k A) (hX : va_X b L xs s s.heap) (hbl : b < s.heap.size) (hbA : ¬ A b) (hA : ∀ q : Nat, s.heap.size ≤ q → A q) (a_p1 : Nat → Nat) (a_p1in : Nat → Nat) (a_p1ou : Nat → Nat) (a_p1ru : Nat → Nat) (a_p1no : Nat → Nat) (a_p1fo : Nat → Nat) (a_p1rd : Nat → Nat) (a_p1rr : Nat → Nat) (a_p1pa : Nat → Nat) (a_p2 : Nat → Nat) (a_p3 : Nat → Nat) (pp_0 : Nat → Nat → Nat) (sa_0 : Nat → Nat) (v4 : Int32) (p1_0 : OS) (p1in_0 : OS) (p1ou_0 : OS) (p1ru_0 : OS) (p1no_0 : OS) (p1fo_0 : OS) (p1rd_0 : OS) (p1rr_0 : OS) (p1pa_0 : PS) (p2_0 : OS) (p3_0 : Nat → Int64) (so_0 : Option OS) (res : LST) (hf : f_law_19 n L xs v4 (svV sa_0 so_0) p1_0 p1in_0 p1ou_0 p1ru_0 p1no_0 p1fo_0 p1rd_0 p1rr_0 p1pa_0 p2_0 p3_0 so_0 = some res)
    (H : Heap) (locs : List Loc) (ls : Array Slot) (c0 s0 : Nat) (hc0 : c0 + 40 ≤ 601024) (hs0 : s0 + 8000 ≤ 7293034) (hW : WD k A s.heap ((List.flatten [wMCo k a_p1 (a_p1in 0) (a_p1ou 0) (a_p1ru 0) (a_p1no 0) (a_p1fo 0) (a_p1rd 0) (a_p1pa 0) (svV sa_0 so_0) p1_0, wBytes k a_p1in 600 p1in_0, wBytes k a_p1ou 1024 p1ou_0, wRules k a_p1ru p1ru_0, wCourt k a_p1no p1no_0, wCourt k a_p1fo p1fo_0, wReader k a_p1rd (a_p1in 0) (a_p1fo 0) (a_p1rr 0) p1rd_0, wRules k a_p1rr p1rr_0, wPast k a_p1pa pp_0 p1pa_0, wModel k a_p2 p2_0, wJArr k a_p3 1 p3_0] ++ savW k sa_0 so_0) ++ poolW k pp_0 p1pa_0.2) H locs) (hl : lv_has ls 9 [(0, .ref b), (1, .ref (a_p1 0)), (2, .ref (a_p2 0)), (3, .ref (a_p3 0)), (4, .int v4)])
    (hgo : ∀ (pp : Nat → Nat → Nat) (sa : Nat → Nat) (H : Heap) (locs : List Loc) (ls : Array Slot) (cells slots : Nat), cells ≤ c0 + 40 → slots ≤ s0 + 8000 → WD k A s.heap ((List.flatten [wMCo k a_p1 (a_p1in 0) (a_p1ou 0) (a_p1ru 0) (a_p1no 0) (a_p1fo 0) (a_p1rd 0) (a_p1pa 0) (svV sa (res.2.2.2.2.2.2.2.2.2.2.2)) (res.1), wBytes k a_p1in 600 (res.2.1), wBytes k a_p1ou 1024 (res.2.2.1), wRules k a_p1ru (res.2.2.2.1), wCourt k a_p1no (res.2.2.2.2.1), wCourt k a_p1fo (res.2.2.2.2.2.1), wReader k a_p1rd (a_p1in 0) (a_p1fo 0) (a_p1rr 0) (res.2.2.2.2.2.2.1), wRules k a_p1rr (res.2.2.2.2.2.2.2.1), wPast k a_p1pa pp (res.2.2.2.2.2.2.2.2.1), wModel k a_p2 (res.2.2.2.2.2.2.2.2.2.1), wJArr k a_p3 1 (res.2.2.2.2.2.2.2.2.2.2.1)] ++ savW k sa (res.2.2.2.2.2.2.2.2.2.2.2)) ++ poolW k pp (res.2.2.2.2.2.2.2.2.1).2) H locs → lv_has ls 9 [(0, .ref b), (1, .ref (a_p1 0)), (2, .ref (a_p2 0)), (3, .ref (a_p3 0)), (4, .int v4)] → W p l e room_1 s m #[Value.ref b] below meth c H locs cells slots Q (F0 m 2474 ls [])) :
    W p l e room_1 s m #[Value.ref b] below meth c H locs c0 s0 Q (F0 m 1084 ls []) := by
  unfold f_law_19 at hf
  refine k_aload_n E hl 1 dL_law_1084 rfl ?_
  obtain ⟨r_1, hg, hf⟩ := ob hf
  refine k_callVi (As := []) (rest := []) (ws2 := fun u => (List.flatten [wMCo k a_p1 (a_p1in 0) (a_p1ou 0) (a_p1ru 0) (a_p1no 0) (a_p1fo 0) (a_p1rd 0) (a_p1pa 0) (svV sa_0 so_0) p1_0, wBytes k a_p1in 600 p1in_0, wBytes k a_p1ou 1024 p1ou_0, wRules k a_p1ru p1ru_0, wCourt k a_p1no p1no_0, wCourt k a_p1fo p1fo_0, wReader k a_p1rd (a_p1in 0) (a_p1fo 0) (a_p1rr 0) p1rd_0, wRules k a_p1rr p1rr_0, wPast k a_p1pa pp_0 p1pa_0, wModel k a_p2 p2_0, wJArr k a_p3 1 p3_0] ++ savW k sa_0 so_0) ++ poolW k pp_0 p1pa_0.2) (c_X8_shortage n l k a_p1 a_p1in a_p1ou a_p1ru a_p1no a_p1fo a_p1rd a_p1pa (svV sa_0 so_0) p1_0 p1no_0 r_1 hg) E vl_L_191 dL_law_1085 rfl (posOf [1, 2, 2, 3, 12, 12, 1, 3, 2, 13, 1] [0, 4]) 6 0 hW hA hl rfl (law_map (ln := [1, 2, 2, 3, 12, 12, 1, 3, 2, 13, 1]) (is := [0, 4]) (cs := [wMCo k a_p1 (a_p1in 0) (a_p1ou 0) (a_p1ru 0) (a_p1no 0) (a_p1fo 0) (a_p1rd 0) (a_p1pa 0) (svV sa_0 so_0) p1_0, wCourt k a_p1no p1no_0]) (fl2 _ _) rfl (by decide) rfl) rfl rfl ⟨Nat.le_of_ble_eq_true rfl, Nat.le_of_ble_eq_true rfl⟩ ⟨by show _ ≤ 601024; omega, by show _ ≤ 7293034; omega⟩ (Nat.le_of_ble_eq_true rfl) rfl (fun _ => rfl) (fun u => law_put (ln := [1, 2, 2, 3, 12, 12, 1, 3, 2, 13, 1]) (is := [0, 4]) (cs0 := [wMCo k a_p1 (a_p1in 0) (a_p1ou 0) (a_p1ru 0) (a_p1no 0) (a_p1fo 0) (a_p1rd 0) (a_p1pa 0) (svV sa_0 so_0) p1_0, wCourt k a_p1no p1no_0]) (cs := [wMCo k a_p1 (a_p1in 0) (a_p1ou 0) (a_p1ru 0) (a_p1no 0) (a_p1fo 0) (a_p1rd 0) (a_p1pa 0) (svV sa_0 so_0) p1_0, wCourt k a_p1no p1no_0]) (fl2 _ _) rfl (by decide) rfl rfl) (fun r u H locs hp hW => ?_)
  cases hp
  have hW : WD k A s.heap ((List.flatten [wMCo k a_p1 (a_p1in 0) (a_p1ou 0) (a_p1ru 0) (a_p1no 0) (a_p1fo 0) (a_p1rd 0) (a_p1pa 0) (svV sa_0 so_0) p1_0, wBytes k a_p1in 600 p1in_0, wBytes k a_p1ou 1024 p1ou_0, wRules k a_p1ru p1ru_0, wCourt k a_p1no p1no_0, wCourt k a_p1fo p1fo_0, wReader k a_p1rd (a_p1in 0) (a_p1fo 0) (a_p1rr 0) p1rd_0, wRules k a_p1rr p1rr_0, wPast k a_p1pa pp_0 p1pa_0, wModel k a_p2 p2_0, wJArr k a_p3 1 p3_0] ++ savW k sa_0 so_0) ++ poolW k pp_0 p1pa_0.2) H locs := hW
  refine k_aload_n E hl 2 dL_law_1088 rfl ?_
  obtain ⟨p2_2, r_3, hg, hf⟩ := ob2 hf
  refine k_callVi (As := []) (rest := [.int r_1]) (ws2 := fun u => (List.flatten [wMCo k a_p1 (a_p1in 0) (a_p1ou 0) (a_p1ru 0) (a_p1no 0) (a_p1fo 0) (a_p1rd 0) (a_p1pa 0) (svV sa_0 so_0) p1_0, wBytes k a_p1in 600 p1in_0, wBytes k a_p1ou 1024 p1ou_0, wRules k a_p1ru p1ru_0, wCourt k a_p1no p1no_0, wCourt k a_p1fo p1fo_0, wReader k a_p1rd (a_p1in 0) (a_p1fo 0) (a_p1rr 0) p1rd_0, wRules k a_p1rr p1rr_0, wPast k a_p1pa pp_0 p1pa_0, wModel k a_p2 (u), wJArr k a_p3 1 p3_0] ++ savW k sa_0 so_0) ++ poolW k pp_0 p1pa_0.2) (c_X9_shortage n l k a_p2 p2_0 (p2_2, r_3) hg) E vl_L_194 dL_law_1089 rfl (posOf [1, 2, 2, 3, 12, 12, 1, 3, 2, 13, 1] [9]) 7 38 hW hA hl rfl (law_map (ln := [1, 2, 2, 3, 12, 12, 1, 3, 2, 13, 1]) (is := [9]) (cs := [wModel k a_p2 p2_0]) (fl1 _) rfl (by decide) rfl) rfl rfl ⟨Nat.le_of_ble_eq_true rfl, Nat.le_of_ble_eq_true rfl⟩ ⟨by show _ ≤ 601024; omega, by show _ ≤ 7293034; omega⟩ (Nat.le_of_ble_eq_true rfl) rfl (fun _ => rfl) (fun u => law_put (ln := [1, 2, 2, 3, 12, 12, 1, 3, 2, 13, 1]) (is := [9]) (cs0 := [wModel k a_p2 p2_0]) (cs := [wModel k a_p2 (u)]) (fl1 _) rfl (by decide) rfl rfl) (fun r u H locs hp hW => ?_)
  cases hp
  have hW : WD k A s.heap ((List.flatten [wMCo k a_p1 (a_p1in 0) (a_p1ou 0) (a_p1ru 0) (a_p1no 0) (a_p1fo 0) (a_p1rd 0) (a_p1pa 0) (svV sa_0 so_0) p1_0, wBytes k a_p1in 600 p1in_0, wBytes k a_p1ou 1024 p1ou_0, wRules k a_p1ru p1ru_0, wCourt k a_p1no p1no_0, wCourt k a_p1fo p1fo_0, wReader k a_p1rd (a_p1in 0) (a_p1fo 0) (a_p1rr 0) p1rd_0, wRules k a_p1rr p1rr_0, wPast k a_p1pa pp_0 p1pa_0, wModel k a_p2 p2_2, wJArr k a_p3 1 p3_0] ++ savW k sa_0 so_0) ++ poolW k pp_0 p1pa_0.2) H locs := hW
  refine lv_icmp_eq (tgt := 2474) E.hx E.hb dL_law_1092 (by decide) (fun hc => ?_) (fun hc => ?_)
  · have hf := oT hc hf
    exact hgo pp_0 sa_0 _ _ _ _ _ (by omega) (by omega) (by cases hf; exact hW) (lv_sub hl [0, 1, 2, 3, 4] rfl)
  · have hf := oF hc hf
    refine lv_iconst (v := (0 : Int32)) E.hx E.hb dL_law_1095 ic_0 ?_
    exact o0 hf
def f_law_20 (n : Nat) (L : Nat) (xs : Nat → Int32) (v4 : Int32) (sv_0 : Value) (p1_0 : OS) (p1in_0 : OS) (p1ou_0 : OS) (p1ru_0 : OS) (p1no_0 : OS) (p1fo_0 : OS) (p1rd_0 : OS) (p1rr_0 : OS) (p1pa_0 : PS) (p2_0 : OS) (p3_0 : Nat → Int64) (so_0 : Option OS) : Option LST :=
  bnd (f_X8_overdue n sv_0 p1_0 p1no_0) (fun (r_1 : Int32) =>
  bnd2 (f_X9_overdue n p2_0) (fun (p2_2 : OS) (r_3 : Int32) =>
  if r_1 = r_3 then (
  some (p1_0, p1in_0, p1ou_0, p1ru_0, p1no_0, p1fo_0, p1rd_0, p1rr_0, p1pa_0, p2_2, p3_0, so_0)) else (
  none)))
set_option maxHeartbeats 4000000 in
set_option maxRecDepth 100000 in
theorem c_law_20 {p : Program} {l : Launch} {e : Env} {s : State} {m : MethodId} {below : List Frame} {meth : Method} {c : Code} {A : Nat → Prop} {Q : State → Prop} {b L : Nat} {xs : Nat → Int32} {k : KT} (n : Nat) (hE : EH k) (hx : XH l k) (hN : CCH k) (E : E0 p s m c cL_law 9 RL k A) (hX : va_X b L xs s s.heap) (hbl : b < s.heap.size) (hbA : ¬ A b) (hA : ∀ q : Nat, s.heap.size ≤ q → A q) (a_p1 : Nat → Nat) (a_p1in : Nat → Nat) (a_p1ou : Nat → Nat) (a_p1ru : Nat → Nat) (a_p1no : Nat → Nat) (a_p1fo : Nat → Nat) (a_p1rd : Nat → Nat) (a_p1rr : Nat → Nat) (a_p1pa : Nat → Nat) (a_p2 : Nat → Nat) (a_p3 : Nat → Nat) (pp_0 : Nat → Nat → Nat) (sa_0 : Nat → Nat) (v4 : Int32) (p1_0 : OS) (p1in_0 : OS) (p1ou_0 : OS) (p1ru_0 : OS) (p1no_0 : OS) (p1fo_0 : OS) (p1rd_0 : OS) (p1rr_0 : OS) (p1pa_0 : PS) (p2_0 : OS) (p3_0 : Nat → Int64) (so_0 : Option OS) (res : LST) (hf : f_law_20 n L xs v4 (svV sa_0 so_0) p1_0 p1in_0 p1ou_0 p1ru_0 p1no_0 p1fo_0 p1rd_0 p1rr_0 p1pa_0 p2_0 p3_0 so_0 = some res)
    (H : Heap) (locs : List Loc) (ls : Array Slot) (c0 s0 : Nat) (hc0 : c0 + 40 ≤ 601024) (hs0 : s0 + 8000 ≤ 7293034) (hW : WD k A s.heap ((List.flatten [wMCo k a_p1 (a_p1in 0) (a_p1ou 0) (a_p1ru 0) (a_p1no 0) (a_p1fo 0) (a_p1rd 0) (a_p1pa 0) (svV sa_0 so_0) p1_0, wBytes k a_p1in 600 p1in_0, wBytes k a_p1ou 1024 p1ou_0, wRules k a_p1ru p1ru_0, wCourt k a_p1no p1no_0, wCourt k a_p1fo p1fo_0, wReader k a_p1rd (a_p1in 0) (a_p1fo 0) (a_p1rr 0) p1rd_0, wRules k a_p1rr p1rr_0, wPast k a_p1pa pp_0 p1pa_0, wModel k a_p2 p2_0, wJArr k a_p3 1 p3_0] ++ savW k sa_0 so_0) ++ poolW k pp_0 p1pa_0.2) H locs) (hl : lv_has ls 9 [(0, .ref b), (1, .ref (a_p1 0)), (2, .ref (a_p2 0)), (3, .ref (a_p3 0)), (4, .int v4)])
    (hgo : ∀ (pp : Nat → Nat → Nat) (sa : Nat → Nat) (H : Heap) (locs : List Loc) (ls : Array Slot) (cells slots : Nat), cells ≤ c0 + 40 → slots ≤ s0 + 8000 → WD k A s.heap ((List.flatten [wMCo k a_p1 (a_p1in 0) (a_p1ou 0) (a_p1ru 0) (a_p1no 0) (a_p1fo 0) (a_p1rd 0) (a_p1pa 0) (svV sa (res.2.2.2.2.2.2.2.2.2.2.2)) (res.1), wBytes k a_p1in 600 (res.2.1), wBytes k a_p1ou 1024 (res.2.2.1), wRules k a_p1ru (res.2.2.2.1), wCourt k a_p1no (res.2.2.2.2.1), wCourt k a_p1fo (res.2.2.2.2.2.1), wReader k a_p1rd (a_p1in 0) (a_p1fo 0) (a_p1rr 0) (res.2.2.2.2.2.2.1), wRules k a_p1rr (res.2.2.2.2.2.2.2.1), wPast k a_p1pa pp (res.2.2.2.2.2.2.2.2.1), wModel k a_p2 (res.2.2.2.2.2.2.2.2.2.1), wJArr k a_p3 1 (res.2.2.2.2.2.2.2.2.2.2.1)] ++ savW k sa (res.2.2.2.2.2.2.2.2.2.2.2)) ++ poolW k pp (res.2.2.2.2.2.2.2.2.1).2) H locs → lv_has ls 9 [(0, .ref b), (1, .ref (a_p1 0)), (2, .ref (a_p2 0)), (3, .ref (a_p3 0)), (4, .int v4)] → W p l e room_1 s m #[Value.ref b] below meth c H locs cells slots Q (F0 m 2474 ls [])) :
    W p l e room_1 s m #[Value.ref b] below meth c H locs c0 s0 Q (F0 m 1097 ls []) := by
  unfold f_law_20 at hf
  refine k_aload_n E hl 1 dL_law_1097 rfl ?_
  obtain ⟨r_1, hg, hf⟩ := ob hf
  refine k_callVi (As := []) (rest := []) (ws2 := fun u => (List.flatten [wMCo k a_p1 (a_p1in 0) (a_p1ou 0) (a_p1ru 0) (a_p1no 0) (a_p1fo 0) (a_p1rd 0) (a_p1pa 0) (svV sa_0 so_0) p1_0, wBytes k a_p1in 600 p1in_0, wBytes k a_p1ou 1024 p1ou_0, wRules k a_p1ru p1ru_0, wCourt k a_p1no p1no_0, wCourt k a_p1fo p1fo_0, wReader k a_p1rd (a_p1in 0) (a_p1fo 0) (a_p1rr 0) p1rd_0, wRules k a_p1rr p1rr_0, wPast k a_p1pa pp_0 p1pa_0, wModel k a_p2 p2_0, wJArr k a_p3 1 p3_0] ++ savW k sa_0 so_0) ++ poolW k pp_0 p1pa_0.2) (c_X8_overdue n l k a_p1 a_p1in a_p1ou a_p1ru a_p1no a_p1fo a_p1rd a_p1pa (svV sa_0 so_0) p1_0 p1no_0 r_1 hg) E vl_L_195 dL_law_1098 rfl (posOf [1, 2, 2, 3, 12, 12, 1, 3, 2, 13, 1] [0, 4]) 6 0 hW hA hl rfl (law_map (ln := [1, 2, 2, 3, 12, 12, 1, 3, 2, 13, 1]) (is := [0, 4]) (cs := [wMCo k a_p1 (a_p1in 0) (a_p1ou 0) (a_p1ru 0) (a_p1no 0) (a_p1fo 0) (a_p1rd 0) (a_p1pa 0) (svV sa_0 so_0) p1_0, wCourt k a_p1no p1no_0]) (fl2 _ _) rfl (by decide) rfl) rfl rfl ⟨Nat.le_of_ble_eq_true rfl, Nat.le_of_ble_eq_true rfl⟩ ⟨by show _ ≤ 601024; omega, by show _ ≤ 7293034; omega⟩ (Nat.le_of_ble_eq_true rfl) rfl (fun _ => rfl) (fun u => law_put (ln := [1, 2, 2, 3, 12, 12, 1, 3, 2, 13, 1]) (is := [0, 4]) (cs0 := [wMCo k a_p1 (a_p1in 0) (a_p1ou 0) (a_p1ru 0) (a_p1no 0) (a_p1fo 0) (a_p1rd 0) (a_p1pa 0) (svV sa_0 so_0) p1_0, wCourt k a_p1no p1no_0]) (cs := [wMCo k a_p1 (a_p1in 0) (a_p1ou 0) (a_p1ru 0) (a_p1no 0) (a_p1fo 0) (a_p1rd 0) (a_p1pa 0) (svV sa_0 so_0) p1_0, wCourt k a_p1no p1no_0]) (fl2 _ _) rfl (by decide) rfl rfl) (fun r u H locs hp hW => ?_)
  cases hp
  have hW : WD k A s.heap ((List.flatten [wMCo k a_p1 (a_p1in 0) (a_p1ou 0) (a_p1ru 0) (a_p1no 0) (a_p1fo 0) (a_p1rd 0) (a_p1pa 0) (svV sa_0 so_0) p1_0, wBytes k a_p1in 600 p1in_0, wBytes k a_p1ou 1024 p1ou_0, wRules k a_p1ru p1ru_0, wCourt k a_p1no p1no_0, wCourt k a_p1fo p1fo_0, wReader k a_p1rd (a_p1in 0) (a_p1fo 0) (a_p1rr 0) p1rd_0, wRules k a_p1rr p1rr_0, wPast k a_p1pa pp_0 p1pa_0, wModel k a_p2 p2_0, wJArr k a_p3 1 p3_0] ++ savW k sa_0 so_0) ++ poolW k pp_0 p1pa_0.2) H locs := hW
  refine k_aload_n E hl 2 dL_law_1101 rfl ?_
  obtain ⟨p2_2, r_3, hg, hf⟩ := ob2 hf
  refine k_callVi (As := []) (rest := [.int r_1]) (ws2 := fun u => (List.flatten [wMCo k a_p1 (a_p1in 0) (a_p1ou 0) (a_p1ru 0) (a_p1no 0) (a_p1fo 0) (a_p1rd 0) (a_p1pa 0) (svV sa_0 so_0) p1_0, wBytes k a_p1in 600 p1in_0, wBytes k a_p1ou 1024 p1ou_0, wRules k a_p1ru p1ru_0, wCourt k a_p1no p1no_0, wCourt k a_p1fo p1fo_0, wReader k a_p1rd (a_p1in 0) (a_p1fo 0) (a_p1rr 0) p1rd_0, wRules k a_p1rr p1rr_0, wPast k a_p1pa pp_0 p1pa_0, wModel k a_p2 (u), wJArr k a_p3 1 p3_0] ++ savW k sa_0 so_0) ++ poolW k pp_0 p1pa_0.2) (c_X9_overdue n l k a_p2 p2_0 (p2_2, r_3) hg) E vl_L_198 dL_law_1102 rfl (posOf [1, 2, 2, 3, 12, 12, 1, 3, 2, 13, 1] [9]) 7 38 hW hA hl rfl (law_map (ln := [1, 2, 2, 3, 12, 12, 1, 3, 2, 13, 1]) (is := [9]) (cs := [wModel k a_p2 p2_0]) (fl1 _) rfl (by decide) rfl) rfl rfl ⟨Nat.le_of_ble_eq_true rfl, Nat.le_of_ble_eq_true rfl⟩ ⟨by show _ ≤ 601024; omega, by show _ ≤ 7293034; omega⟩ (Nat.le_of_ble_eq_true rfl) rfl (fun _ => rfl) (fun u => law_put (ln := [1, 2, 2, 3, 12, 12, 1, 3, 2, 13, 1]) (is := [9]) (cs0 := [wModel k a_p2 p2_0]) (cs := [wModel k a_p2 (u)]) (fl1 _) rfl (by decide) rfl rfl) (fun r u H locs hp hW => ?_)
  cases hp
  have hW : WD k A s.heap ((List.flatten [wMCo k a_p1 (a_p1in 0) (a_p1ou 0) (a_p1ru 0) (a_p1no 0) (a_p1fo 0) (a_p1rd 0) (a_p1pa 0) (svV sa_0 so_0) p1_0, wBytes k a_p1in 600 p1in_0, wBytes k a_p1ou 1024 p1ou_0, wRules k a_p1ru p1ru_0, wCourt k a_p1no p1no_0, wCourt k a_p1fo p1fo_0, wReader k a_p1rd (a_p1in 0) (a_p1fo 0) (a_p1rr 0) p1rd_0, wRules k a_p1rr p1rr_0, wPast k a_p1pa pp_0 p1pa_0, wModel k a_p2 p2_2, wJArr k a_p3 1 p3_0] ++ savW k sa_0 so_0) ++ poolW k pp_0 p1pa_0.2) H locs := hW
  refine lv_icmp_eq (tgt := 2474) E.hx E.hb dL_law_1105 (by decide) (fun hc => ?_) (fun hc => ?_)
  · have hf := oT hc hf
    exact hgo pp_0 sa_0 _ _ _ _ _ (by omega) (by omega) (by cases hf; exact hW) (lv_sub hl [0, 1, 2, 3, 4] rfl)
  · have hf := oF hc hf
    refine lv_iconst (v := (0 : Int32)) E.hx E.hb dL_law_1108 ic_0 ?_
    exact o0 hf
def f_law_21 (n : Nat) (L : Nat) (xs : Nat → Int32) (v4 : Int32) (sv_0 : Value) (p1_0 : OS) (p1in_0 : OS) (p1ou_0 : OS) (p1ru_0 : OS) (p1no_0 : OS) (p1fo_0 : OS) (p1rd_0 : OS) (p1rr_0 : OS) (p1pa_0 : PS) (p2_0 : OS) (p3_0 : Nat → Int64) (so_0 : Option OS) : Option LST :=
  bnd (f_X8_firstBroken n sv_0 p1_0 p1no_0) (fun (r_1 : Int32) =>
  bnd2 (f_X9_firstBroken n p2_0) (fun (p2_2 : OS) (r_3 : Int32) =>
  if r_1 = r_3 then (
  some (p1_0, p1in_0, p1ou_0, p1ru_0, p1no_0, p1fo_0, p1rd_0, p1rr_0, p1pa_0, p2_2, p3_0, so_0)) else (
  none)))
set_option maxHeartbeats 4000000 in
set_option maxRecDepth 100000 in
theorem c_law_21 {p : Program} {l : Launch} {e : Env} {s : State} {m : MethodId} {below : List Frame} {meth : Method} {c : Code} {A : Nat → Prop} {Q : State → Prop} {b L : Nat} {xs : Nat → Int32} {k : KT} (n : Nat) (hE : EH k) (hx : XH l k) (hN : CCH k) (E : E0 p s m c cL_law 9 RL k A) (hX : va_X b L xs s s.heap) (hbl : b < s.heap.size) (hbA : ¬ A b) (hA : ∀ q : Nat, s.heap.size ≤ q → A q) (a_p1 : Nat → Nat) (a_p1in : Nat → Nat) (a_p1ou : Nat → Nat) (a_p1ru : Nat → Nat) (a_p1no : Nat → Nat) (a_p1fo : Nat → Nat) (a_p1rd : Nat → Nat) (a_p1rr : Nat → Nat) (a_p1pa : Nat → Nat) (a_p2 : Nat → Nat) (a_p3 : Nat → Nat) (pp_0 : Nat → Nat → Nat) (sa_0 : Nat → Nat) (v4 : Int32) (p1_0 : OS) (p1in_0 : OS) (p1ou_0 : OS) (p1ru_0 : OS) (p1no_0 : OS) (p1fo_0 : OS) (p1rd_0 : OS) (p1rr_0 : OS) (p1pa_0 : PS) (p2_0 : OS) (p3_0 : Nat → Int64) (so_0 : Option OS) (res : LST) (hf : f_law_21 n L xs v4 (svV sa_0 so_0) p1_0 p1in_0 p1ou_0 p1ru_0 p1no_0 p1fo_0 p1rd_0 p1rr_0 p1pa_0 p2_0 p3_0 so_0 = some res)
    (H : Heap) (locs : List Loc) (ls : Array Slot) (c0 s0 : Nat) (hc0 : c0 + 40 ≤ 601024) (hs0 : s0 + 8000 ≤ 7293034) (hW : WD k A s.heap ((List.flatten [wMCo k a_p1 (a_p1in 0) (a_p1ou 0) (a_p1ru 0) (a_p1no 0) (a_p1fo 0) (a_p1rd 0) (a_p1pa 0) (svV sa_0 so_0) p1_0, wBytes k a_p1in 600 p1in_0, wBytes k a_p1ou 1024 p1ou_0, wRules k a_p1ru p1ru_0, wCourt k a_p1no p1no_0, wCourt k a_p1fo p1fo_0, wReader k a_p1rd (a_p1in 0) (a_p1fo 0) (a_p1rr 0) p1rd_0, wRules k a_p1rr p1rr_0, wPast k a_p1pa pp_0 p1pa_0, wModel k a_p2 p2_0, wJArr k a_p3 1 p3_0] ++ savW k sa_0 so_0) ++ poolW k pp_0 p1pa_0.2) H locs) (hl : lv_has ls 9 [(0, .ref b), (1, .ref (a_p1 0)), (2, .ref (a_p2 0)), (3, .ref (a_p3 0)), (4, .int v4)])
    (hgo : ∀ (pp : Nat → Nat → Nat) (sa : Nat → Nat) (H : Heap) (locs : List Loc) (ls : Array Slot) (cells slots : Nat), cells ≤ c0 + 40 → slots ≤ s0 + 8000 → WD k A s.heap ((List.flatten [wMCo k a_p1 (a_p1in 0) (a_p1ou 0) (a_p1ru 0) (a_p1no 0) (a_p1fo 0) (a_p1rd 0) (a_p1pa 0) (svV sa (res.2.2.2.2.2.2.2.2.2.2.2)) (res.1), wBytes k a_p1in 600 (res.2.1), wBytes k a_p1ou 1024 (res.2.2.1), wRules k a_p1ru (res.2.2.2.1), wCourt k a_p1no (res.2.2.2.2.1), wCourt k a_p1fo (res.2.2.2.2.2.1), wReader k a_p1rd (a_p1in 0) (a_p1fo 0) (a_p1rr 0) (res.2.2.2.2.2.2.1), wRules k a_p1rr (res.2.2.2.2.2.2.2.1), wPast k a_p1pa pp (res.2.2.2.2.2.2.2.2.1), wModel k a_p2 (res.2.2.2.2.2.2.2.2.2.1), wJArr k a_p3 1 (res.2.2.2.2.2.2.2.2.2.2.1)] ++ savW k sa (res.2.2.2.2.2.2.2.2.2.2.2)) ++ poolW k pp (res.2.2.2.2.2.2.2.2.1).2) H locs → lv_has ls 9 [(0, .ref b), (1, .ref (a_p1 0)), (2, .ref (a_p2 0)), (3, .ref (a_p3 0)), (4, .int v4)] → W p l e room_1 s m #[Value.ref b] below meth c H locs cells slots Q (F0 m 2474 ls [])) :
    W p l e room_1 s m #[Value.ref b] below meth c H locs c0 s0 Q (F0 m 1110 ls []) := by
  unfold f_law_21 at hf
  refine k_aload_n E hl 1 dL_law_1110 rfl ?_
  obtain ⟨r_1, hg, hf⟩ := ob hf
  refine k_callVi (As := []) (rest := []) (ws2 := fun u => (List.flatten [wMCo k a_p1 (a_p1in 0) (a_p1ou 0) (a_p1ru 0) (a_p1no 0) (a_p1fo 0) (a_p1rd 0) (a_p1pa 0) (svV sa_0 so_0) p1_0, wBytes k a_p1in 600 p1in_0, wBytes k a_p1ou 1024 p1ou_0, wRules k a_p1ru p1ru_0, wCourt k a_p1no p1no_0, wCourt k a_p1fo p1fo_0, wReader k a_p1rd (a_p1in 0) (a_p1fo 0) (a_p1rr 0) p1rd_0, wRules k a_p1rr p1rr_0, wPast k a_p1pa pp_0 p1pa_0, wModel k a_p2 p2_0, wJArr k a_p3 1 p3_0] ++ savW k sa_0 so_0) ++ poolW k pp_0 p1pa_0.2) (c_X8_firstBroken n l k a_p1 a_p1in a_p1ou a_p1ru a_p1no a_p1fo a_p1rd a_p1pa (svV sa_0 so_0) p1_0 p1no_0 r_1 hg) E vl_L_199 dL_law_1111 rfl (posOf [1, 2, 2, 3, 12, 12, 1, 3, 2, 13, 1] [0, 4]) 6 0 hW hA hl rfl (law_map (ln := [1, 2, 2, 3, 12, 12, 1, 3, 2, 13, 1]) (is := [0, 4]) (cs := [wMCo k a_p1 (a_p1in 0) (a_p1ou 0) (a_p1ru 0) (a_p1no 0) (a_p1fo 0) (a_p1rd 0) (a_p1pa 0) (svV sa_0 so_0) p1_0, wCourt k a_p1no p1no_0]) (fl2 _ _) rfl (by decide) rfl) rfl rfl ⟨Nat.le_of_ble_eq_true rfl, Nat.le_of_ble_eq_true rfl⟩ ⟨by show _ ≤ 601024; omega, by show _ ≤ 7293034; omega⟩ (Nat.le_of_ble_eq_true rfl) rfl (fun _ => rfl) (fun u => law_put (ln := [1, 2, 2, 3, 12, 12, 1, 3, 2, 13, 1]) (is := [0, 4]) (cs0 := [wMCo k a_p1 (a_p1in 0) (a_p1ou 0) (a_p1ru 0) (a_p1no 0) (a_p1fo 0) (a_p1rd 0) (a_p1pa 0) (svV sa_0 so_0) p1_0, wCourt k a_p1no p1no_0]) (cs := [wMCo k a_p1 (a_p1in 0) (a_p1ou 0) (a_p1ru 0) (a_p1no 0) (a_p1fo 0) (a_p1rd 0) (a_p1pa 0) (svV sa_0 so_0) p1_0, wCourt k a_p1no p1no_0]) (fl2 _ _) rfl (by decide) rfl rfl) (fun r u H locs hp hW => ?_)
  cases hp
  have hW : WD k A s.heap ((List.flatten [wMCo k a_p1 (a_p1in 0) (a_p1ou 0) (a_p1ru 0) (a_p1no 0) (a_p1fo 0) (a_p1rd 0) (a_p1pa 0) (svV sa_0 so_0) p1_0, wBytes k a_p1in 600 p1in_0, wBytes k a_p1ou 1024 p1ou_0, wRules k a_p1ru p1ru_0, wCourt k a_p1no p1no_0, wCourt k a_p1fo p1fo_0, wReader k a_p1rd (a_p1in 0) (a_p1fo 0) (a_p1rr 0) p1rd_0, wRules k a_p1rr p1rr_0, wPast k a_p1pa pp_0 p1pa_0, wModel k a_p2 p2_0, wJArr k a_p3 1 p3_0] ++ savW k sa_0 so_0) ++ poolW k pp_0 p1pa_0.2) H locs := hW
  refine k_aload_n E hl 2 dL_law_1114 rfl ?_
  obtain ⟨p2_2, r_3, hg, hf⟩ := ob2 hf
  refine k_callVi (As := []) (rest := [.int r_1]) (ws2 := fun u => (List.flatten [wMCo k a_p1 (a_p1in 0) (a_p1ou 0) (a_p1ru 0) (a_p1no 0) (a_p1fo 0) (a_p1rd 0) (a_p1pa 0) (svV sa_0 so_0) p1_0, wBytes k a_p1in 600 p1in_0, wBytes k a_p1ou 1024 p1ou_0, wRules k a_p1ru p1ru_0, wCourt k a_p1no p1no_0, wCourt k a_p1fo p1fo_0, wReader k a_p1rd (a_p1in 0) (a_p1fo 0) (a_p1rr 0) p1rd_0, wRules k a_p1rr p1rr_0, wPast k a_p1pa pp_0 p1pa_0, wModel k a_p2 (u), wJArr k a_p3 1 p3_0] ++ savW k sa_0 so_0) ++ poolW k pp_0 p1pa_0.2) (c_X9_firstBroken n l k a_p2 p2_0 (p2_2, r_3) hg) E vl_L_202 dL_law_1115 rfl (posOf [1, 2, 2, 3, 12, 12, 1, 3, 2, 13, 1] [9]) 7 38 hW hA hl rfl (law_map (ln := [1, 2, 2, 3, 12, 12, 1, 3, 2, 13, 1]) (is := [9]) (cs := [wModel k a_p2 p2_0]) (fl1 _) rfl (by decide) rfl) rfl rfl ⟨Nat.le_of_ble_eq_true rfl, Nat.le_of_ble_eq_true rfl⟩ ⟨by show _ ≤ 601024; omega, by show _ ≤ 7293034; omega⟩ (Nat.le_of_ble_eq_true rfl) rfl (fun _ => rfl) (fun u => law_put (ln := [1, 2, 2, 3, 12, 12, 1, 3, 2, 13, 1]) (is := [9]) (cs0 := [wModel k a_p2 p2_0]) (cs := [wModel k a_p2 (u)]) (fl1 _) rfl (by decide) rfl rfl) (fun r u H locs hp hW => ?_)
  cases hp
  have hW : WD k A s.heap ((List.flatten [wMCo k a_p1 (a_p1in 0) (a_p1ou 0) (a_p1ru 0) (a_p1no 0) (a_p1fo 0) (a_p1rd 0) (a_p1pa 0) (svV sa_0 so_0) p1_0, wBytes k a_p1in 600 p1in_0, wBytes k a_p1ou 1024 p1ou_0, wRules k a_p1ru p1ru_0, wCourt k a_p1no p1no_0, wCourt k a_p1fo p1fo_0, wReader k a_p1rd (a_p1in 0) (a_p1fo 0) (a_p1rr 0) p1rd_0, wRules k a_p1rr p1rr_0, wPast k a_p1pa pp_0 p1pa_0, wModel k a_p2 p2_2, wJArr k a_p3 1 p3_0] ++ savW k sa_0 so_0) ++ poolW k pp_0 p1pa_0.2) H locs := hW
  refine lv_icmp_eq (tgt := 2474) E.hx E.hb dL_law_1118 (by decide) (fun hc => ?_) (fun hc => ?_)
  · have hf := oT hc hf
    exact hgo pp_0 sa_0 _ _ _ _ _ (by omega) (by omega) (by cases hf; exact hW) (lv_sub hl [0, 1, 2, 3, 4] rfl)
  · have hf := oF hc hf
    refine lv_iconst (v := (0 : Int32)) E.hx E.hb dL_law_1121 ic_0 ?_
    exact o0 hf
def f_law_22 (n : Nat) (L : Nat) (xs : Nat → Int32) (v4 : Int32) (sv_0 : Value) (p1_0 : OS) (p1in_0 : OS) (p1ou_0 : OS) (p1ru_0 : OS) (p1no_0 : OS) (p1fo_0 : OS) (p1rd_0 : OS) (p1rr_0 : OS) (p1pa_0 : PS) (p2_0 : OS) (p3_0 : Nat → Int64) (so_0 : Option OS) : Option LST :=
  bnd (f_X8_worst n sv_0 p1_0 p1ru_0 p1no_0) (fun (r_1 : Int32) =>
  bnd2 (f_X9_worst n p2_0) (fun (p2_2 : OS) (r_3 : Int32) =>
  if r_1 = r_3 then (
  some (p1_0, p1in_0, p1ou_0, p1ru_0, p1no_0, p1fo_0, p1rd_0, p1rr_0, p1pa_0, p2_2, p3_0, so_0)) else (
  none)))
set_option maxHeartbeats 4000000 in
set_option maxRecDepth 100000 in
theorem c_law_22 {p : Program} {l : Launch} {e : Env} {s : State} {m : MethodId} {below : List Frame} {meth : Method} {c : Code} {A : Nat → Prop} {Q : State → Prop} {b L : Nat} {xs : Nat → Int32} {k : KT} (n : Nat) (hE : EH k) (hx : XH l k) (hN : CCH k) (E : E0 p s m c cL_law 9 RL k A) (hX : va_X b L xs s s.heap) (hbl : b < s.heap.size) (hbA : ¬ A b) (hA : ∀ q : Nat, s.heap.size ≤ q → A q) (a_p1 : Nat → Nat) (a_p1in : Nat → Nat) (a_p1ou : Nat → Nat) (a_p1ru : Nat → Nat) (a_p1no : Nat → Nat) (a_p1fo : Nat → Nat) (a_p1rd : Nat → Nat) (a_p1rr : Nat → Nat) (a_p1pa : Nat → Nat) (a_p2 : Nat → Nat) (a_p3 : Nat → Nat) (pp_0 : Nat → Nat → Nat) (sa_0 : Nat → Nat) (v4 : Int32) (p1_0 : OS) (p1in_0 : OS) (p1ou_0 : OS) (p1ru_0 : OS) (p1no_0 : OS) (p1fo_0 : OS) (p1rd_0 : OS) (p1rr_0 : OS) (p1pa_0 : PS) (p2_0 : OS) (p3_0 : Nat → Int64) (so_0 : Option OS) (res : LST) (hf : f_law_22 n L xs v4 (svV sa_0 so_0) p1_0 p1in_0 p1ou_0 p1ru_0 p1no_0 p1fo_0 p1rd_0 p1rr_0 p1pa_0 p2_0 p3_0 so_0 = some res)
    (H : Heap) (locs : List Loc) (ls : Array Slot) (c0 s0 : Nat) (hc0 : c0 + 40 ≤ 601024) (hs0 : s0 + 8000 ≤ 7293034) (hW : WD k A s.heap ((List.flatten [wMCo k a_p1 (a_p1in 0) (a_p1ou 0) (a_p1ru 0) (a_p1no 0) (a_p1fo 0) (a_p1rd 0) (a_p1pa 0) (svV sa_0 so_0) p1_0, wBytes k a_p1in 600 p1in_0, wBytes k a_p1ou 1024 p1ou_0, wRules k a_p1ru p1ru_0, wCourt k a_p1no p1no_0, wCourt k a_p1fo p1fo_0, wReader k a_p1rd (a_p1in 0) (a_p1fo 0) (a_p1rr 0) p1rd_0, wRules k a_p1rr p1rr_0, wPast k a_p1pa pp_0 p1pa_0, wModel k a_p2 p2_0, wJArr k a_p3 1 p3_0] ++ savW k sa_0 so_0) ++ poolW k pp_0 p1pa_0.2) H locs) (hl : lv_has ls 9 [(0, .ref b), (1, .ref (a_p1 0)), (2, .ref (a_p2 0)), (3, .ref (a_p3 0)), (4, .int v4)])
    (hgo : ∀ (pp : Nat → Nat → Nat) (sa : Nat → Nat) (H : Heap) (locs : List Loc) (ls : Array Slot) (cells slots : Nat), cells ≤ c0 + 40 → slots ≤ s0 + 8000 → WD k A s.heap ((List.flatten [wMCo k a_p1 (a_p1in 0) (a_p1ou 0) (a_p1ru 0) (a_p1no 0) (a_p1fo 0) (a_p1rd 0) (a_p1pa 0) (svV sa (res.2.2.2.2.2.2.2.2.2.2.2)) (res.1), wBytes k a_p1in 600 (res.2.1), wBytes k a_p1ou 1024 (res.2.2.1), wRules k a_p1ru (res.2.2.2.1), wCourt k a_p1no (res.2.2.2.2.1), wCourt k a_p1fo (res.2.2.2.2.2.1), wReader k a_p1rd (a_p1in 0) (a_p1fo 0) (a_p1rr 0) (res.2.2.2.2.2.2.1), wRules k a_p1rr (res.2.2.2.2.2.2.2.1), wPast k a_p1pa pp (res.2.2.2.2.2.2.2.2.1), wModel k a_p2 (res.2.2.2.2.2.2.2.2.2.1), wJArr k a_p3 1 (res.2.2.2.2.2.2.2.2.2.2.1)] ++ savW k sa (res.2.2.2.2.2.2.2.2.2.2.2)) ++ poolW k pp (res.2.2.2.2.2.2.2.2.1).2) H locs → lv_has ls 9 [(0, .ref b), (1, .ref (a_p1 0)), (2, .ref (a_p2 0)), (3, .ref (a_p3 0)), (4, .int v4)] → W p l e room_1 s m #[Value.ref b] below meth c H locs cells slots Q (F0 m 2474 ls [])) :
    W p l e room_1 s m #[Value.ref b] below meth c H locs c0 s0 Q (F0 m 1123 ls []) := by
  unfold f_law_22 at hf
  refine k_aload_n E hl 1 dL_law_1123 rfl ?_
  obtain ⟨r_1, hg, hf⟩ := ob hf
  refine k_callVi (As := []) (rest := []) (ws2 := fun u => (List.flatten [wMCo k a_p1 (a_p1in 0) (a_p1ou 0) (a_p1ru 0) (a_p1no 0) (a_p1fo 0) (a_p1rd 0) (a_p1pa 0) (svV sa_0 so_0) p1_0, wBytes k a_p1in 600 p1in_0, wBytes k a_p1ou 1024 p1ou_0, wRules k a_p1ru p1ru_0, wCourt k a_p1no p1no_0, wCourt k a_p1fo p1fo_0, wReader k a_p1rd (a_p1in 0) (a_p1fo 0) (a_p1rr 0) p1rd_0, wRules k a_p1rr p1rr_0, wPast k a_p1pa pp_0 p1pa_0, wModel k a_p2 p2_0, wJArr k a_p3 1 p3_0] ++ savW k sa_0 so_0) ++ poolW k pp_0 p1pa_0.2) (c_X8_worst n l k a_p1 a_p1in a_p1ou a_p1ru a_p1no a_p1fo a_p1rd a_p1pa (svV sa_0 so_0) p1_0 p1ru_0 p1no_0 r_1 hg) E vl_L_203 dL_law_1124 rfl (posOf [1, 2, 2, 3, 12, 12, 1, 3, 2, 13, 1] [0, 3, 4]) 6 0 hW hA hl rfl (law_map (ln := [1, 2, 2, 3, 12, 12, 1, 3, 2, 13, 1]) (is := [0, 3, 4]) (cs := [wMCo k a_p1 (a_p1in 0) (a_p1ou 0) (a_p1ru 0) (a_p1no 0) (a_p1fo 0) (a_p1rd 0) (a_p1pa 0) (svV sa_0 so_0) p1_0, wRules k a_p1ru p1ru_0, wCourt k a_p1no p1no_0]) (fl3 _ _ _) rfl (by decide) rfl) rfl rfl ⟨Nat.le_of_ble_eq_true rfl, Nat.le_of_ble_eq_true rfl⟩ ⟨by show _ ≤ 601024; omega, by show _ ≤ 7293034; omega⟩ (Nat.le_of_ble_eq_true rfl) rfl (fun _ => rfl) (fun u => law_put (ln := [1, 2, 2, 3, 12, 12, 1, 3, 2, 13, 1]) (is := [0, 3, 4]) (cs0 := [wMCo k a_p1 (a_p1in 0) (a_p1ou 0) (a_p1ru 0) (a_p1no 0) (a_p1fo 0) (a_p1rd 0) (a_p1pa 0) (svV sa_0 so_0) p1_0, wRules k a_p1ru p1ru_0, wCourt k a_p1no p1no_0]) (cs := [wMCo k a_p1 (a_p1in 0) (a_p1ou 0) (a_p1ru 0) (a_p1no 0) (a_p1fo 0) (a_p1rd 0) (a_p1pa 0) (svV sa_0 so_0) p1_0, wRules k a_p1ru p1ru_0, wCourt k a_p1no p1no_0]) (fl3 _ _ _) rfl (by decide) rfl rfl) (fun r u H locs hp hW => ?_)
  cases hp
  have hW : WD k A s.heap ((List.flatten [wMCo k a_p1 (a_p1in 0) (a_p1ou 0) (a_p1ru 0) (a_p1no 0) (a_p1fo 0) (a_p1rd 0) (a_p1pa 0) (svV sa_0 so_0) p1_0, wBytes k a_p1in 600 p1in_0, wBytes k a_p1ou 1024 p1ou_0, wRules k a_p1ru p1ru_0, wCourt k a_p1no p1no_0, wCourt k a_p1fo p1fo_0, wReader k a_p1rd (a_p1in 0) (a_p1fo 0) (a_p1rr 0) p1rd_0, wRules k a_p1rr p1rr_0, wPast k a_p1pa pp_0 p1pa_0, wModel k a_p2 p2_0, wJArr k a_p3 1 p3_0] ++ savW k sa_0 so_0) ++ poolW k pp_0 p1pa_0.2) H locs := hW
  refine k_aload_n E hl 2 dL_law_1127 rfl ?_
  obtain ⟨p2_2, r_3, hg, hf⟩ := ob2 hf
  refine k_callVi (As := []) (rest := [.int r_1]) (ws2 := fun u => (List.flatten [wMCo k a_p1 (a_p1in 0) (a_p1ou 0) (a_p1ru 0) (a_p1no 0) (a_p1fo 0) (a_p1rd 0) (a_p1pa 0) (svV sa_0 so_0) p1_0, wBytes k a_p1in 600 p1in_0, wBytes k a_p1ou 1024 p1ou_0, wRules k a_p1ru p1ru_0, wCourt k a_p1no p1no_0, wCourt k a_p1fo p1fo_0, wReader k a_p1rd (a_p1in 0) (a_p1fo 0) (a_p1rr 0) p1rd_0, wRules k a_p1rr p1rr_0, wPast k a_p1pa pp_0 p1pa_0, wModel k a_p2 (u), wJArr k a_p3 1 p3_0] ++ savW k sa_0 so_0) ++ poolW k pp_0 p1pa_0.2) (c_X9_worst n l k a_p2 p2_0 (p2_2, r_3) hg) E vl_L_206 dL_law_1128 rfl (posOf [1, 2, 2, 3, 12, 12, 1, 3, 2, 13, 1] [9]) 7 38 hW hA hl rfl (law_map (ln := [1, 2, 2, 3, 12, 12, 1, 3, 2, 13, 1]) (is := [9]) (cs := [wModel k a_p2 p2_0]) (fl1 _) rfl (by decide) rfl) rfl rfl ⟨Nat.le_of_ble_eq_true rfl, Nat.le_of_ble_eq_true rfl⟩ ⟨by show _ ≤ 601024; omega, by show _ ≤ 7293034; omega⟩ (Nat.le_of_ble_eq_true rfl) rfl (fun _ => rfl) (fun u => law_put (ln := [1, 2, 2, 3, 12, 12, 1, 3, 2, 13, 1]) (is := [9]) (cs0 := [wModel k a_p2 p2_0]) (cs := [wModel k a_p2 (u)]) (fl1 _) rfl (by decide) rfl rfl) (fun r u H locs hp hW => ?_)
  cases hp
  have hW : WD k A s.heap ((List.flatten [wMCo k a_p1 (a_p1in 0) (a_p1ou 0) (a_p1ru 0) (a_p1no 0) (a_p1fo 0) (a_p1rd 0) (a_p1pa 0) (svV sa_0 so_0) p1_0, wBytes k a_p1in 600 p1in_0, wBytes k a_p1ou 1024 p1ou_0, wRules k a_p1ru p1ru_0, wCourt k a_p1no p1no_0, wCourt k a_p1fo p1fo_0, wReader k a_p1rd (a_p1in 0) (a_p1fo 0) (a_p1rr 0) p1rd_0, wRules k a_p1rr p1rr_0, wPast k a_p1pa pp_0 p1pa_0, wModel k a_p2 p2_2, wJArr k a_p3 1 p3_0] ++ savW k sa_0 so_0) ++ poolW k pp_0 p1pa_0.2) H locs := hW
  refine lv_icmp_eq (tgt := 2474) E.hx E.hb dL_law_1131 (by decide) (fun hc => ?_) (fun hc => ?_)
  · have hf := oT hc hf
    exact hgo pp_0 sa_0 _ _ _ _ _ (by omega) (by omega) (by cases hf; exact hW) (lv_sub hl [0, 1, 2, 3, 4] rfl)
  · have hf := oF hc hf
    refine lv_iconst (v := (0 : Int32)) E.hx E.hb dL_law_1134 ic_0 ?_
    exact o0 hf
def f_law_23 (n : Nat) (L : Nat) (xs : Nat → Int32) (v4 : Int32) (sv_0 : Value) (p1_0 : OS) (p1in_0 : OS) (p1ou_0 : OS) (p1ru_0 : OS) (p1no_0 : OS) (p1fo_0 : OS) (p1rd_0 : OS) (p1rr_0 : OS) (p1pa_0 : PS) (p2_0 : OS) (p3_0 : Nat → Int64) (so_0 : Option OS) : Option LST :=
  bnd (f_X8_meanLate n sv_0 p1_0 p1no_0) (fun (r_1 : UInt64) =>
  bnd2 (f_X9_meanLate n p2_0) (fun (p2_2 : OS) (r_3 : UInt64) =>
  if r_1 = r_3 then (
  some (p1_0, p1in_0, p1ou_0, p1ru_0, p1no_0, p1fo_0, p1rd_0, p1rr_0, p1pa_0, p2_2, p3_0, so_0)) else none))
set_option maxHeartbeats 4000000 in
set_option maxRecDepth 100000 in
theorem c_law_23 {p : Program} {l : Launch} {e : Env} {s : State} {m : MethodId} {below : List Frame} {meth : Method} {c : Code} {A : Nat → Prop} {Q : State → Prop} {b L : Nat} {xs : Nat → Int32} {k : KT} (n : Nat) (hE : EH k) (hx : XH l k) (hN : CCH k) (E : E0 p s m c cL_law 9 RL k A) (hX : va_X b L xs s s.heap) (hbl : b < s.heap.size) (hbA : ¬ A b) (hA : ∀ q : Nat, s.heap.size ≤ q → A q) (a_p1 : Nat → Nat) (a_p1in : Nat → Nat) (a_p1ou : Nat → Nat) (a_p1ru : Nat → Nat) (a_p1no : Nat → Nat) (a_p1fo : Nat → Nat) (a_p1rd : Nat → Nat) (a_p1rr : Nat → Nat) (a_p1pa : Nat → Nat) (a_p2 : Nat → Nat) (a_p3 : Nat → Nat) (pp_0 : Nat → Nat → Nat) (sa_0 : Nat → Nat) (v4 : Int32) (p1_0 : OS) (p1in_0 : OS) (p1ou_0 : OS) (p1ru_0 : OS) (p1no_0 : OS) (p1fo_0 : OS) (p1rd_0 : OS) (p1rr_0 : OS) (p1pa_0 : PS) (p2_0 : OS) (p3_0 : Nat → Int64) (so_0 : Option OS) (res : LST) (hf : f_law_23 n L xs v4 (svV sa_0 so_0) p1_0 p1in_0 p1ou_0 p1ru_0 p1no_0 p1fo_0 p1rd_0 p1rr_0 p1pa_0 p2_0 p3_0 so_0 = some res)
    (H : Heap) (locs : List Loc) (ls : Array Slot) (c0 s0 : Nat) (hc0 : c0 + 40 ≤ 601024) (hs0 : s0 + 8000 ≤ 7293034) (hW : WD k A s.heap ((List.flatten [wMCo k a_p1 (a_p1in 0) (a_p1ou 0) (a_p1ru 0) (a_p1no 0) (a_p1fo 0) (a_p1rd 0) (a_p1pa 0) (svV sa_0 so_0) p1_0, wBytes k a_p1in 600 p1in_0, wBytes k a_p1ou 1024 p1ou_0, wRules k a_p1ru p1ru_0, wCourt k a_p1no p1no_0, wCourt k a_p1fo p1fo_0, wReader k a_p1rd (a_p1in 0) (a_p1fo 0) (a_p1rr 0) p1rd_0, wRules k a_p1rr p1rr_0, wPast k a_p1pa pp_0 p1pa_0, wModel k a_p2 p2_0, wJArr k a_p3 1 p3_0] ++ savW k sa_0 so_0) ++ poolW k pp_0 p1pa_0.2) H locs) (hl : lv_has ls 9 [(0, .ref b), (1, .ref (a_p1 0)), (2, .ref (a_p2 0)), (3, .ref (a_p3 0)), (4, .int v4)])
    (hgo : ∀ (pp : Nat → Nat → Nat) (sa : Nat → Nat) (H : Heap) (locs : List Loc) (ls : Array Slot) (cells slots : Nat), cells ≤ c0 + 40 → slots ≤ s0 + 8000 → WD k A s.heap ((List.flatten [wMCo k a_p1 (a_p1in 0) (a_p1ou 0) (a_p1ru 0) (a_p1no 0) (a_p1fo 0) (a_p1rd 0) (a_p1pa 0) (svV sa (res.2.2.2.2.2.2.2.2.2.2.2)) (res.1), wBytes k a_p1in 600 (res.2.1), wBytes k a_p1ou 1024 (res.2.2.1), wRules k a_p1ru (res.2.2.2.1), wCourt k a_p1no (res.2.2.2.2.1), wCourt k a_p1fo (res.2.2.2.2.2.1), wReader k a_p1rd (a_p1in 0) (a_p1fo 0) (a_p1rr 0) (res.2.2.2.2.2.2.1), wRules k a_p1rr (res.2.2.2.2.2.2.2.1), wPast k a_p1pa pp (res.2.2.2.2.2.2.2.2.1), wModel k a_p2 (res.2.2.2.2.2.2.2.2.2.1), wJArr k a_p3 1 (res.2.2.2.2.2.2.2.2.2.2.1)] ++ savW k sa (res.2.2.2.2.2.2.2.2.2.2.2)) ++ poolW k pp (res.2.2.2.2.2.2.2.2.1).2) H locs → lv_has ls 9 [(0, .ref b), (1, .ref (a_p1 0)), (2, .ref (a_p2 0)), (3, .ref (a_p3 0)), (4, .int v4)] → W p l e room_1 s m #[Value.ref b] below meth c H locs cells slots Q (F0 m 2474 ls [])) :
    W p l e room_1 s m #[Value.ref b] below meth c H locs c0 s0 Q (F0 m 1136 ls []) := by
  unfold f_law_23 at hf
  refine k_aload_n E hl 1 dL_law_1136 rfl ?_
  obtain ⟨r_1, hg, hf⟩ := ob hf
  refine k_callVd (As := []) (rest := []) (ws2 := fun u => (List.flatten [wMCo k a_p1 (a_p1in 0) (a_p1ou 0) (a_p1ru 0) (a_p1no 0) (a_p1fo 0) (a_p1rd 0) (a_p1pa 0) (svV sa_0 so_0) p1_0, wBytes k a_p1in 600 p1in_0, wBytes k a_p1ou 1024 p1ou_0, wRules k a_p1ru p1ru_0, wCourt k a_p1no p1no_0, wCourt k a_p1fo p1fo_0, wReader k a_p1rd (a_p1in 0) (a_p1fo 0) (a_p1rr 0) p1rd_0, wRules k a_p1rr p1rr_0, wPast k a_p1pa pp_0 p1pa_0, wModel k a_p2 p2_0, wJArr k a_p3 1 p3_0] ++ savW k sa_0 so_0) ++ poolW k pp_0 p1pa_0.2) (c_X8_meanLate n l k a_p1 a_p1in a_p1ou a_p1ru a_p1no a_p1fo a_p1rd a_p1pa (svV sa_0 so_0) p1_0 p1no_0 r_1 hg) E vl_L_207 dL_law_1137 rfl (posOf [1, 2, 2, 3, 12, 12, 1, 3, 2, 13, 1] [0, 4]) 6 0 hW hA hl rfl (law_map (ln := [1, 2, 2, 3, 12, 12, 1, 3, 2, 13, 1]) (is := [0, 4]) (cs := [wMCo k a_p1 (a_p1in 0) (a_p1ou 0) (a_p1ru 0) (a_p1no 0) (a_p1fo 0) (a_p1rd 0) (a_p1pa 0) (svV sa_0 so_0) p1_0, wCourt k a_p1no p1no_0]) (fl2 _ _) rfl (by decide) rfl) rfl rfl ⟨Nat.le_of_ble_eq_true rfl, Nat.le_of_ble_eq_true rfl⟩ ⟨by show _ ≤ 601024; omega, by show _ ≤ 7293034; omega⟩ (Nat.le_of_ble_eq_true rfl) rfl (fun _ => rfl) (fun u => law_put (ln := [1, 2, 2, 3, 12, 12, 1, 3, 2, 13, 1]) (is := [0, 4]) (cs0 := [wMCo k a_p1 (a_p1in 0) (a_p1ou 0) (a_p1ru 0) (a_p1no 0) (a_p1fo 0) (a_p1rd 0) (a_p1pa 0) (svV sa_0 so_0) p1_0, wCourt k a_p1no p1no_0]) (cs := [wMCo k a_p1 (a_p1in 0) (a_p1ou 0) (a_p1ru 0) (a_p1no 0) (a_p1fo 0) (a_p1rd 0) (a_p1pa 0) (svV sa_0 so_0) p1_0, wCourt k a_p1no p1no_0]) (fl2 _ _) rfl (by decide) rfl rfl) (fun r u H locs hp hW => ?_)
  cases hp
  have hW : WD k A s.heap ((List.flatten [wMCo k a_p1 (a_p1in 0) (a_p1ou 0) (a_p1ru 0) (a_p1no 0) (a_p1fo 0) (a_p1rd 0) (a_p1pa 0) (svV sa_0 so_0) p1_0, wBytes k a_p1in 600 p1in_0, wBytes k a_p1ou 1024 p1ou_0, wRules k a_p1ru p1ru_0, wCourt k a_p1no p1no_0, wCourt k a_p1fo p1fo_0, wReader k a_p1rd (a_p1in 0) (a_p1fo 0) (a_p1rr 0) p1rd_0, wRules k a_p1rr p1rr_0, wPast k a_p1pa pp_0 p1pa_0, wModel k a_p2 p2_0, wJArr k a_p3 1 p3_0] ++ savW k sa_0 so_0) ++ poolW k pp_0 p1pa_0.2) H locs := hW
  refine lv_dstore (lv' := [(5, .double r_1), (0, .ref b), (1, .ref (a_p1 0)), (2, .ref (a_p2 0)), (3, .ref (a_p3 0)), (4, .int v4)]) E.hx E.hb dL_law_1140 hl (by decide) rfl (fun ls hl => ?_)
  refine k_aload_n E hl 3 dL_law_1142 rfl ?_
  obtain ⟨p2_2, r_3, hg, hf⟩ := ob2 hf
  refine k_callVd (As := []) (rest := []) (ws2 := fun u => (List.flatten [wMCo k a_p1 (a_p1in 0) (a_p1ou 0) (a_p1ru 0) (a_p1no 0) (a_p1fo 0) (a_p1rd 0) (a_p1pa 0) (svV sa_0 so_0) p1_0, wBytes k a_p1in 600 p1in_0, wBytes k a_p1ou 1024 p1ou_0, wRules k a_p1ru p1ru_0, wCourt k a_p1no p1no_0, wCourt k a_p1fo p1fo_0, wReader k a_p1rd (a_p1in 0) (a_p1fo 0) (a_p1rr 0) p1rd_0, wRules k a_p1rr p1rr_0, wPast k a_p1pa pp_0 p1pa_0, wModel k a_p2 (u), wJArr k a_p3 1 p3_0] ++ savW k sa_0 so_0) ++ poolW k pp_0 p1pa_0.2) (c_X9_meanLate n l k a_p2 p2_0 (p2_2, r_3) hg) E vl_L_211 dL_law_1143 rfl (posOf [1, 2, 2, 3, 12, 12, 1, 3, 2, 13, 1] [9]) 7 38 hW hA hl rfl (law_map (ln := [1, 2, 2, 3, 12, 12, 1, 3, 2, 13, 1]) (is := [9]) (cs := [wModel k a_p2 p2_0]) (fl1 _) rfl (by decide) rfl) rfl rfl ⟨Nat.le_of_ble_eq_true rfl, Nat.le_of_ble_eq_true rfl⟩ ⟨by show _ ≤ 601024; omega, by show _ ≤ 7293034; omega⟩ (Nat.le_of_ble_eq_true rfl) rfl (fun _ => rfl) (fun u => law_put (ln := [1, 2, 2, 3, 12, 12, 1, 3, 2, 13, 1]) (is := [9]) (cs0 := [wModel k a_p2 p2_0]) (cs := [wModel k a_p2 (u)]) (fl1 _) rfl (by decide) rfl rfl) (fun r u H locs hp hW => ?_)
  cases hp
  have hW : WD k A s.heap ((List.flatten [wMCo k a_p1 (a_p1in 0) (a_p1ou 0) (a_p1ru 0) (a_p1no 0) (a_p1fo 0) (a_p1rd 0) (a_p1pa 0) (svV sa_0 so_0) p1_0, wBytes k a_p1in 600 p1in_0, wBytes k a_p1ou 1024 p1ou_0, wRules k a_p1ru p1ru_0, wCourt k a_p1no p1no_0, wCourt k a_p1fo p1fo_0, wReader k a_p1rd (a_p1in 0) (a_p1fo 0) (a_p1rr 0) p1rd_0, wRules k a_p1rr p1rr_0, wPast k a_p1pa pp_0 p1pa_0, wModel k a_p2 p2_2, wJArr k a_p3 1 p3_0] ++ savW k sa_0 so_0) ++ poolW k pp_0 p1pa_0.2) H locs := hW
  refine lv_dstore (lv' := [(7, .double r_3), (5, .double r_1), (0, .ref b), (1, .ref (a_p1 0)), (2, .ref (a_p2 0)), (3, .ref (a_p3 0)), (4, .int v4)]) E.hx E.hb dL_law_1146 hl (by decide) rfl (fun ls hl => ?_)
  refine lv_dload E.hx E.hb dL_law_1148 (lv_at hl 1 rfl) ?_
  refine lv_dload E.hx E.hb dL_law_1150 (lv_at hl 0 rfl) ?_
  by_cases hpq : r_1 = r_3
  · have hf := oT hpq hf
    have go : W p l e room_1 s m #[Value.ref b] below meth c H locs c0 s0 Q (F0 m 1174 ls []) := by
      refine lv_goto (tgt := 2474) E.hx E.hb dL_law_1174 (by decide) ?_
      exact hgo pp_0 sa_0 _ _ _ _ _ (by omega) (by omega) (by cases hf; exact hW) (lv_sub hl [2, 3, 4, 5, 6] rfl)
    rw [← hpq]
    obtain ⟨v, hv0⟩ : ∃ v, v = Op.cmpValue (FP.dcmp r_1 r_1) CmpOp.l := ⟨_, rfl⟩
    refine lv_dcmp E.hx E.hb dL_law_1152 ?_
    rw [← hv0]
    refine lv_if_eq (tgt := 1174) E.hx E.hb dL_law_1153 (by decide) (fun _ => go) (fun hv => ?_)
    refine lv_dload E.hx E.hb dL_law_1156 (lv_at hl 1 rfl) ?_
    refine lv_dload E.hx E.hb dL_law_1158 (lv_at hl 1 rfl) ?_
    refine lv_dcmp E.hx E.hb dL_law_1160 ?_
    rw [← hv0]
    refine lv_if_eq (tgt := 1172) E.hx E.hb dL_law_1161 (by decide) (fun h => absurd h hv) (fun _ => ?_)
    refine lv_dload E.hx E.hb dL_law_1164 (lv_at hl 0 rfl) ?_
    refine lv_dload E.hx E.hb dL_law_1166 (lv_at hl 0 rfl) ?_
    refine lv_dcmp E.hx E.hb dL_law_1168 ?_
    rw [← hpq, ← hv0]
    refine lv_if_ne (tgt := 1174) E.hx E.hb dL_law_1169 (by decide) (fun _ => go) (fun h => absurd h hv)
  exact o0 (oF hpq hf)
def f_law_24 (n : Nat) (L : Nat) (xs : Nat → Int32) (v4 : Int32) (sv_0 : Value) (p1_0 : OS) (p1in_0 : OS) (p1ou_0 : OS) (p1ru_0 : OS) (p1no_0 : OS) (p1fo_0 : OS) (p1rd_0 : OS) (p1rr_0 : OS) (p1pa_0 : PS) (p2_0 : OS) (p3_0 : Nat → Int64) (so_0 : Option OS) : Option LST :=
  bnd (f_X8_metShare n sv_0 p1_0 p1no_0) (fun (r_1 : UInt32) =>
  nN64 (FP.f2d r_1) (
  bnd2 (f_X9_metShare n p2_0) (fun (p2_2 : OS) (r_3 : UInt32) =>
  nN64 (FP.f2d r_3) (
  if (FP.f2d r_1) = (FP.f2d r_3) then (
  some (p1_0, p1in_0, p1ou_0, p1ru_0, p1no_0, p1fo_0, p1rd_0, p1rr_0, p1pa_0, p2_2, p3_0, so_0)) else none))))
set_option maxHeartbeats 4000000 in
set_option maxRecDepth 100000 in
theorem c_law_24 {p : Program} {l : Launch} {e : Env} {s : State} {m : MethodId} {below : List Frame} {meth : Method} {c : Code} {A : Nat → Prop} {Q : State → Prop} {b L : Nat} {xs : Nat → Int32} {k : KT} (n : Nat) (hE : EH k) (hx : XH l k) (hN : CCH k) (E : E0 p s m c cL_law 9 RL k A) (hX : va_X b L xs s s.heap) (hbl : b < s.heap.size) (hbA : ¬ A b) (hA : ∀ q : Nat, s.heap.size ≤ q → A q) (a_p1 : Nat → Nat) (a_p1in : Nat → Nat) (a_p1ou : Nat → Nat) (a_p1ru : Nat → Nat) (a_p1no : Nat → Nat) (a_p1fo : Nat → Nat) (a_p1rd : Nat → Nat) (a_p1rr : Nat → Nat) (a_p1pa : Nat → Nat) (a_p2 : Nat → Nat) (a_p3 : Nat → Nat) (pp_0 : Nat → Nat → Nat) (sa_0 : Nat → Nat) (v4 : Int32) (p1_0 : OS) (p1in_0 : OS) (p1ou_0 : OS) (p1ru_0 : OS) (p1no_0 : OS) (p1fo_0 : OS) (p1rd_0 : OS) (p1rr_0 : OS) (p1pa_0 : PS) (p2_0 : OS) (p3_0 : Nat → Int64) (so_0 : Option OS) (res : LST) (hf : f_law_24 n L xs v4 (svV sa_0 so_0) p1_0 p1in_0 p1ou_0 p1ru_0 p1no_0 p1fo_0 p1rd_0 p1rr_0 p1pa_0 p2_0 p3_0 so_0 = some res)
    (H : Heap) (locs : List Loc) (ls : Array Slot) (c0 s0 : Nat) (hc0 : c0 + 40 ≤ 601024) (hs0 : s0 + 8000 ≤ 7293034) (hW : WD k A s.heap ((List.flatten [wMCo k a_p1 (a_p1in 0) (a_p1ou 0) (a_p1ru 0) (a_p1no 0) (a_p1fo 0) (a_p1rd 0) (a_p1pa 0) (svV sa_0 so_0) p1_0, wBytes k a_p1in 600 p1in_0, wBytes k a_p1ou 1024 p1ou_0, wRules k a_p1ru p1ru_0, wCourt k a_p1no p1no_0, wCourt k a_p1fo p1fo_0, wReader k a_p1rd (a_p1in 0) (a_p1fo 0) (a_p1rr 0) p1rd_0, wRules k a_p1rr p1rr_0, wPast k a_p1pa pp_0 p1pa_0, wModel k a_p2 p2_0, wJArr k a_p3 1 p3_0] ++ savW k sa_0 so_0) ++ poolW k pp_0 p1pa_0.2) H locs) (hl : lv_has ls 9 [(0, .ref b), (1, .ref (a_p1 0)), (2, .ref (a_p2 0)), (3, .ref (a_p3 0)), (4, .int v4)])
    (hgo : ∀ (pp : Nat → Nat → Nat) (sa : Nat → Nat) (H : Heap) (locs : List Loc) (ls : Array Slot) (cells slots : Nat), cells ≤ c0 + 40 → slots ≤ s0 + 8000 → WD k A s.heap ((List.flatten [wMCo k a_p1 (a_p1in 0) (a_p1ou 0) (a_p1ru 0) (a_p1no 0) (a_p1fo 0) (a_p1rd 0) (a_p1pa 0) (svV sa (res.2.2.2.2.2.2.2.2.2.2.2)) (res.1), wBytes k a_p1in 600 (res.2.1), wBytes k a_p1ou 1024 (res.2.2.1), wRules k a_p1ru (res.2.2.2.1), wCourt k a_p1no (res.2.2.2.2.1), wCourt k a_p1fo (res.2.2.2.2.2.1), wReader k a_p1rd (a_p1in 0) (a_p1fo 0) (a_p1rr 0) (res.2.2.2.2.2.2.1), wRules k a_p1rr (res.2.2.2.2.2.2.2.1), wPast k a_p1pa pp (res.2.2.2.2.2.2.2.2.1), wModel k a_p2 (res.2.2.2.2.2.2.2.2.2.1), wJArr k a_p3 1 (res.2.2.2.2.2.2.2.2.2.2.1)] ++ savW k sa (res.2.2.2.2.2.2.2.2.2.2.2)) ++ poolW k pp (res.2.2.2.2.2.2.2.2.1).2) H locs → lv_has ls 9 [(0, .ref b), (1, .ref (a_p1 0)), (2, .ref (a_p2 0)), (3, .ref (a_p3 0)), (4, .int v4)] → W p l e room_1 s m #[Value.ref b] below meth c H locs cells slots Q (F0 m 2474 ls [])) :
    W p l e room_1 s m #[Value.ref b] below meth c H locs c0 s0 Q (F0 m 1177 ls []) := by
  unfold f_law_24 at hf
  refine k_aload_n E hl 1 dL_law_1177 rfl ?_
  obtain ⟨r_1, hg, hf⟩ := ob hf
  refine k_callVf (As := []) (rest := []) (ws2 := fun u => (List.flatten [wMCo k a_p1 (a_p1in 0) (a_p1ou 0) (a_p1ru 0) (a_p1no 0) (a_p1fo 0) (a_p1rd 0) (a_p1pa 0) (svV sa_0 so_0) p1_0, wBytes k a_p1in 600 p1in_0, wBytes k a_p1ou 1024 p1ou_0, wRules k a_p1ru p1ru_0, wCourt k a_p1no p1no_0, wCourt k a_p1fo p1fo_0, wReader k a_p1rd (a_p1in 0) (a_p1fo 0) (a_p1rr 0) p1rd_0, wRules k a_p1rr p1rr_0, wPast k a_p1pa pp_0 p1pa_0, wModel k a_p2 p2_0, wJArr k a_p3 1 p3_0] ++ savW k sa_0 so_0) ++ poolW k pp_0 p1pa_0.2) (c_X8_metShare n l k a_p1 a_p1in a_p1ou a_p1ru a_p1no a_p1fo a_p1rd a_p1pa (svV sa_0 so_0) p1_0 p1no_0 r_1 hg) E vl_L_212 dL_law_1178 rfl (posOf [1, 2, 2, 3, 12, 12, 1, 3, 2, 13, 1] [0, 4]) 6 0 hW hA hl rfl (law_map (ln := [1, 2, 2, 3, 12, 12, 1, 3, 2, 13, 1]) (is := [0, 4]) (cs := [wMCo k a_p1 (a_p1in 0) (a_p1ou 0) (a_p1ru 0) (a_p1no 0) (a_p1fo 0) (a_p1rd 0) (a_p1pa 0) (svV sa_0 so_0) p1_0, wCourt k a_p1no p1no_0]) (fl2 _ _) rfl (by decide) rfl) rfl rfl ⟨Nat.le_of_ble_eq_true rfl, Nat.le_of_ble_eq_true rfl⟩ ⟨by show _ ≤ 601024; omega, by show _ ≤ 7293034; omega⟩ (Nat.le_of_ble_eq_true rfl) rfl (fun _ => rfl) (fun u => law_put (ln := [1, 2, 2, 3, 12, 12, 1, 3, 2, 13, 1]) (is := [0, 4]) (cs0 := [wMCo k a_p1 (a_p1in 0) (a_p1ou 0) (a_p1ru 0) (a_p1no 0) (a_p1fo 0) (a_p1rd 0) (a_p1pa 0) (svV sa_0 so_0) p1_0, wCourt k a_p1no p1no_0]) (cs := [wMCo k a_p1 (a_p1in 0) (a_p1ou 0) (a_p1ru 0) (a_p1no 0) (a_p1fo 0) (a_p1rd 0) (a_p1pa 0) (svV sa_0 so_0) p1_0, wCourt k a_p1no p1no_0]) (fl2 _ _) rfl (by decide) rfl rfl) (fun r u H locs hp hW => ?_)
  cases hp
  have hW : WD k A s.heap ((List.flatten [wMCo k a_p1 (a_p1in 0) (a_p1ou 0) (a_p1ru 0) (a_p1no 0) (a_p1fo 0) (a_p1rd 0) (a_p1pa 0) (svV sa_0 so_0) p1_0, wBytes k a_p1in 600 p1in_0, wBytes k a_p1ou 1024 p1ou_0, wRules k a_p1ru p1ru_0, wCourt k a_p1no p1no_0, wCourt k a_p1fo p1fo_0, wReader k a_p1rd (a_p1in 0) (a_p1fo 0) (a_p1rr 0) p1rd_0, wRules k a_p1rr p1rr_0, wPast k a_p1pa pp_0 p1pa_0, wModel k a_p2 p2_0, wJArr k a_p3 1 p3_0] ++ savW k sa_0 so_0) ++ poolW k pp_0 p1pa_0.2) H locs := hW
  obtain ⟨hnan, hf⟩ := oNN64 hf
  refine lv_f2d E.hx E.hb dL_law_1181 hnan ?_
  refine lv_dstore (lv' := [(5, .double (FP.f2d r_1)), (0, .ref b), (1, .ref (a_p1 0)), (2, .ref (a_p2 0)), (3, .ref (a_p3 0)), (4, .int v4)]) E.hx E.hb dL_law_1182 hl (by decide) rfl (fun ls hl => ?_)
  refine k_aload_n E hl 3 dL_law_1184 rfl ?_
  obtain ⟨p2_2, r_3, hg, hf⟩ := ob2 hf
  refine k_callVf (As := []) (rest := []) (ws2 := fun u => (List.flatten [wMCo k a_p1 (a_p1in 0) (a_p1ou 0) (a_p1ru 0) (a_p1no 0) (a_p1fo 0) (a_p1rd 0) (a_p1pa 0) (svV sa_0 so_0) p1_0, wBytes k a_p1in 600 p1in_0, wBytes k a_p1ou 1024 p1ou_0, wRules k a_p1ru p1ru_0, wCourt k a_p1no p1no_0, wCourt k a_p1fo p1fo_0, wReader k a_p1rd (a_p1in 0) (a_p1fo 0) (a_p1rr 0) p1rd_0, wRules k a_p1rr p1rr_0, wPast k a_p1pa pp_0 p1pa_0, wModel k a_p2 (u), wJArr k a_p3 1 p3_0] ++ savW k sa_0 so_0) ++ poolW k pp_0 p1pa_0.2) (c_X9_metShare n l k a_p2 p2_0 (p2_2, r_3) hg) E vl_L_216 dL_law_1185 rfl (posOf [1, 2, 2, 3, 12, 12, 1, 3, 2, 13, 1] [9]) 7 38 hW hA hl rfl (law_map (ln := [1, 2, 2, 3, 12, 12, 1, 3, 2, 13, 1]) (is := [9]) (cs := [wModel k a_p2 p2_0]) (fl1 _) rfl (by decide) rfl) rfl rfl ⟨Nat.le_of_ble_eq_true rfl, Nat.le_of_ble_eq_true rfl⟩ ⟨by show _ ≤ 601024; omega, by show _ ≤ 7293034; omega⟩ (Nat.le_of_ble_eq_true rfl) rfl (fun _ => rfl) (fun u => law_put (ln := [1, 2, 2, 3, 12, 12, 1, 3, 2, 13, 1]) (is := [9]) (cs0 := [wModel k a_p2 p2_0]) (cs := [wModel k a_p2 (u)]) (fl1 _) rfl (by decide) rfl rfl) (fun r u H locs hp hW => ?_)
  cases hp
  have hW : WD k A s.heap ((List.flatten [wMCo k a_p1 (a_p1in 0) (a_p1ou 0) (a_p1ru 0) (a_p1no 0) (a_p1fo 0) (a_p1rd 0) (a_p1pa 0) (svV sa_0 so_0) p1_0, wBytes k a_p1in 600 p1in_0, wBytes k a_p1ou 1024 p1ou_0, wRules k a_p1ru p1ru_0, wCourt k a_p1no p1no_0, wCourt k a_p1fo p1fo_0, wReader k a_p1rd (a_p1in 0) (a_p1fo 0) (a_p1rr 0) p1rd_0, wRules k a_p1rr p1rr_0, wPast k a_p1pa pp_0 p1pa_0, wModel k a_p2 p2_2, wJArr k a_p3 1 p3_0] ++ savW k sa_0 so_0) ++ poolW k pp_0 p1pa_0.2) H locs := hW
  obtain ⟨hnan, hf⟩ := oNN64 hf
  refine lv_f2d E.hx E.hb dL_law_1188 hnan ?_
  refine lv_dstore (lv' := [(7, .double (FP.f2d r_3)), (5, .double (FP.f2d r_1)), (0, .ref b), (1, .ref (a_p1 0)), (2, .ref (a_p2 0)), (3, .ref (a_p3 0)), (4, .int v4)]) E.hx E.hb dL_law_1189 hl (by decide) rfl (fun ls hl => ?_)
  refine lv_dload E.hx E.hb dL_law_1191 (lv_at hl 1 rfl) ?_
  refine lv_dload E.hx E.hb dL_law_1193 (lv_at hl 0 rfl) ?_
  by_cases hpq : (FP.f2d r_1) = (FP.f2d r_3)
  · have hf := oT hpq hf
    have go : W p l e room_1 s m #[Value.ref b] below meth c H locs c0 s0 Q (F0 m 1217 ls []) := by
      refine lv_goto (tgt := 2474) E.hx E.hb dL_law_1217 (by decide) ?_
      exact hgo pp_0 sa_0 _ _ _ _ _ (by omega) (by omega) (by cases hf; exact hW) (lv_sub hl [2, 3, 4, 5, 6] rfl)
    rw [← hpq]
    obtain ⟨v, hv0⟩ : ∃ v, v = Op.cmpValue (FP.dcmp (FP.f2d r_1) (FP.f2d r_1)) CmpOp.l := ⟨_, rfl⟩
    refine lv_dcmp E.hx E.hb dL_law_1195 ?_
    rw [← hv0]
    refine lv_if_eq (tgt := 1217) E.hx E.hb dL_law_1196 (by decide) (fun _ => go) (fun hv => ?_)
    refine lv_dload E.hx E.hb dL_law_1199 (lv_at hl 1 rfl) ?_
    refine lv_dload E.hx E.hb dL_law_1201 (lv_at hl 1 rfl) ?_
    refine lv_dcmp E.hx E.hb dL_law_1203 ?_
    rw [← hv0]
    refine lv_if_eq (tgt := 1215) E.hx E.hb dL_law_1204 (by decide) (fun h => absurd h hv) (fun _ => ?_)
    refine lv_dload E.hx E.hb dL_law_1207 (lv_at hl 0 rfl) ?_
    refine lv_dload E.hx E.hb dL_law_1209 (lv_at hl 0 rfl) ?_
    refine lv_dcmp E.hx E.hb dL_law_1211 ?_
    rw [← hpq, ← hv0]
    refine lv_if_ne (tgt := 1217) E.hx E.hb dL_law_1212 (by decide) (fun _ => go) (fun h => absurd h hv)
  exact o0 (oF hpq hf)
def f_law_25 (n : Nat) (L : Nat) (xs : Nat → Int32) (v4 : Int32) (sv_0 : Value) (p1_0 : OS) (p1in_0 : OS) (p1ou_0 : OS) (p1ru_0 : OS) (p1no_0 : OS) (p1fo_0 : OS) (p1rd_0 : OS) (p1rr_0 : OS) (p1pa_0 : PS) (p2_0 : OS) (p3_0 : Nat → Int64) (so_0 : Option OS) : Option LST :=
  gI L (v4 + (1 : Int32)) (Let (xs (v4 + (1 : Int32)).toNatClampNeg) (fun x_1 : Int32 =>
  bnd4 (f_L_run n sv_0 p1_0 p1ru_0 p1no_0 p1pa_0 1 p3_0 x_1) (fun (p1no_2 : OS) (p1pa_3 : PS) (p3_4 : Nat → Int64) (r_5 : Int32) =>
  gI L (v4 + (1 : Int32)) (Let (xs (v4 + (1 : Int32)).toNatClampNeg) (fun x_7 : Int32 =>
  bnd2 (f_X9_run n p2_0 x_7) (fun (p2_8 : OS) (r_9 : Int32) =>
  bnd (f_X9_thrown n p2_8) (fun (r_10 : Int32) =>
  if r_10 = r_5 then (
  if r_5 = 0 then (
  gI 1 (0 : Int32) (Let (p3_4 (0 : Int32).toNatClampNeg) (fun x_11 : Int64 =>
  if (lg_cmp x_11 ((r_9).toInt64)) = 0 then (
  some (p1_0, p1in_0, p1ou_0, p1ru_0, p1no_2, p1fo_0, p1rd_0, p1rr_0, p1pa_3, p2_8, p3_4, so_0)) else (
  none)))) else (
  some (p1_0, p1in_0, p1ou_0, p1ru_0, p1no_2, p1fo_0, p1rd_0, p1rr_0, p1pa_3, p2_8, p3_4, so_0))) else (
  none))))))))
set_option maxHeartbeats 4000000 in
set_option maxRecDepth 100000 in
theorem c_law_25 {p : Program} {l : Launch} {e : Env} {s : State} {m : MethodId} {below : List Frame} {meth : Method} {c : Code} {A : Nat → Prop} {Q : State → Prop} {b L : Nat} {xs : Nat → Int32} {k : KT} (n : Nat) (hE : EH k) (hx : XH l k) (hN : CCH k) (E : E0 p s m c cL_law 9 RL k A) (hX : va_X b L xs s s.heap) (hbl : b < s.heap.size) (hbA : ¬ A b) (hA : ∀ q : Nat, s.heap.size ≤ q → A q) (a_p1 : Nat → Nat) (a_p1in : Nat → Nat) (a_p1ou : Nat → Nat) (a_p1ru : Nat → Nat) (a_p1no : Nat → Nat) (a_p1fo : Nat → Nat) (a_p1rd : Nat → Nat) (a_p1rr : Nat → Nat) (a_p1pa : Nat → Nat) (a_p2 : Nat → Nat) (a_p3 : Nat → Nat) (pp_0 : Nat → Nat → Nat) (sa_0 : Nat → Nat) (v4 : Int32) (p1_0 : OS) (p1in_0 : OS) (p1ou_0 : OS) (p1ru_0 : OS) (p1no_0 : OS) (p1fo_0 : OS) (p1rd_0 : OS) (p1rr_0 : OS) (p1pa_0 : PS) (p2_0 : OS) (p3_0 : Nat → Int64) (so_0 : Option OS) (res : LST) (hf : f_law_25 n L xs v4 (svV sa_0 so_0) p1_0 p1in_0 p1ou_0 p1ru_0 p1no_0 p1fo_0 p1rd_0 p1rr_0 p1pa_0 p2_0 p3_0 so_0 = some res)
    (H : Heap) (locs : List Loc) (ls : Array Slot) (c0 s0 : Nat) (hc0 : c0 + 40 ≤ 601024) (hs0 : s0 + 8000 ≤ 7293034) (hW : WD k A s.heap ((List.flatten [wMCo k a_p1 (a_p1in 0) (a_p1ou 0) (a_p1ru 0) (a_p1no 0) (a_p1fo 0) (a_p1rd 0) (a_p1pa 0) (svV sa_0 so_0) p1_0, wBytes k a_p1in 600 p1in_0, wBytes k a_p1ou 1024 p1ou_0, wRules k a_p1ru p1ru_0, wCourt k a_p1no p1no_0, wCourt k a_p1fo p1fo_0, wReader k a_p1rd (a_p1in 0) (a_p1fo 0) (a_p1rr 0) p1rd_0, wRules k a_p1rr p1rr_0, wPast k a_p1pa pp_0 p1pa_0, wModel k a_p2 p2_0, wJArr k a_p3 1 p3_0] ++ savW k sa_0 so_0) ++ poolW k pp_0 p1pa_0.2) H locs) (hl : lv_has ls 9 [(0, .ref b), (1, .ref (a_p1 0)), (2, .ref (a_p2 0)), (3, .ref (a_p3 0)), (4, .int v4)])
    (hgo : ∀ (pp : Nat → Nat → Nat) (sa : Nat → Nat) (H : Heap) (locs : List Loc) (ls : Array Slot) (cells slots : Nat), cells ≤ c0 + 40 → slots ≤ s0 + 8000 → WD k A s.heap ((List.flatten [wMCo k a_p1 (a_p1in 0) (a_p1ou 0) (a_p1ru 0) (a_p1no 0) (a_p1fo 0) (a_p1rd 0) (a_p1pa 0) (svV sa (res.2.2.2.2.2.2.2.2.2.2.2)) (res.1), wBytes k a_p1in 600 (res.2.1), wBytes k a_p1ou 1024 (res.2.2.1), wRules k a_p1ru (res.2.2.2.1), wCourt k a_p1no (res.2.2.2.2.1), wCourt k a_p1fo (res.2.2.2.2.2.1), wReader k a_p1rd (a_p1in 0) (a_p1fo 0) (a_p1rr 0) (res.2.2.2.2.2.2.1), wRules k a_p1rr (res.2.2.2.2.2.2.2.1), wPast k a_p1pa pp (res.2.2.2.2.2.2.2.2.1), wModel k a_p2 (res.2.2.2.2.2.2.2.2.2.1), wJArr k a_p3 1 (res.2.2.2.2.2.2.2.2.2.2.1)] ++ savW k sa (res.2.2.2.2.2.2.2.2.2.2.2)) ++ poolW k pp (res.2.2.2.2.2.2.2.2.1).2) H locs → lv_has ls 9 [(0, .ref b), (1, .ref (a_p1 0)), (2, .ref (a_p2 0)), (3, .ref (a_p3 0)), (4, .int v4)] → W p l e room_1 s m #[Value.ref b] below meth c H locs cells slots Q (F0 m 2474 ls [])) :
    W p l e room_1 s m #[Value.ref b] below meth c H locs c0 s0 Q (F0 m 1220 ls []) := by
  unfold f_law_25 at hf
  refine k_aload_n E hl 1 dL_law_1220 rfl ?_
  refine k_aload_n E hl 0 dL_law_1221 rfl ?_
  refine k_iload E hl 4 dL_law_1222 rfl ?_
  refine lv_iconst (v := (1 : Int32)) E.hx E.hb dL_law_1224 ic_1 ?_
  refine lv_iadd E.hx E.hb dL_law_1225 ?_
  obtain ⟨hin, hf⟩ := oI hf
  obtain ⟨x_1, ex_1, hf⟩ := oL hf
  refine va_sld E.hx E.hb hX hbl hbA hW.2.2 hin dL_law_1226 ?_
  refine k_topi ex_1 ?_
  refine k_aload_n E hl 3 dL_law_1227 rfl ?_
  obtain ⟨p1no_2, p1pa_3, p3_4, r_5, hg, hf⟩ := ob4 hf
  refine k_callSXGi (As := [.ref (a_p1 0), .int x_1, .ref (a_p3 0)]) (rest := []) (ws2 := fun u => (List.flatten [wMCo k a_p1 (a_p1in 0) (a_p1ou 0) (a_p1ru 0) (a_p1no 0) (a_p1fo 0) (a_p1rd 0) (a_p1pa 0) (svV sa_0 so_0) p1_0, wBytes k a_p1in 600 p1in_0, wBytes k a_p1ou 1024 p1ou_0, wRules k a_p1ru p1ru_0, wCourt k a_p1no (u.1), wCourt k a_p1fo p1fo_0, wReader k a_p1rd (a_p1in 0) (a_p1fo 0) (a_p1rr 0) p1rd_0, wRules k a_p1rr p1rr_0, wPast k a_p1pa (u.2.2.2) (u.2.1), wModel k a_p2 p2_0, wJArr k a_p3 1 (u.2.2.1)] ++ savW k sa_0 so_0) ++ poolW k (u.2.2.2) (u.2.1).2) (c_L_run n l k hN hx a_p1 a_p1in a_p1ou a_p1ru a_p1no a_p1fo a_p1rd a_p1pa a_p3 pp_0 (svV sa_0 so_0) p1_0 p1ru_0 p1no_0 p1pa_0 1 p3_0 x_1 (p1no_2, p1pa_3, p3_4, r_5) hg) E sw_217 rfl dL_law_1228 rfl (posOf [1, 2, 2, 3, 12, 12, 1, 3, 2, 13, 1] [0, 3, 4, 8, 10]) hW hA hl rfl (law_mapG (ln := [1, 2, 2, 3, 12, 12, 1, 3, 2, 13, 1]) (is := [0, 3, 4, 8, 10]) (cs := [wMCo k a_p1 (a_p1in 0) (a_p1ou 0) (a_p1ru 0) (a_p1no 0) (a_p1fo 0) (a_p1rd 0) (a_p1pa 0) (svV sa_0 so_0) p1_0, wRules k a_p1ru p1ru_0, wCourt k a_p1no p1no_0, wPast k a_p1pa pp_0 p1pa_0, wJArr k a_p3 1 p3_0]) (fl5 _ _ _ _ _) rfl (by decide) rfl) ⟨Nat.le_of_ble_eq_true rfl, Nat.le_of_ble_eq_true rfl⟩ ⟨by show _ ≤ 601024; omega, by show _ ≤ 7293034; omega⟩ (Nat.le_of_ble_eq_true rfl) rfl (fun _ => rfl) (fun u => law_putG (ln := [1, 2, 2, 3, 12, 12, 1, 3, 2, 13, 1]) (is := [0, 3, 4, 8, 10]) (cs0 := [wMCo k a_p1 (a_p1in 0) (a_p1ou 0) (a_p1ru 0) (a_p1no 0) (a_p1fo 0) (a_p1rd 0) (a_p1pa 0) (svV sa_0 so_0) p1_0, wRules k a_p1ru p1ru_0, wCourt k a_p1no p1no_0, wPast k a_p1pa pp_0 p1pa_0, wJArr k a_p3 1 p3_0]) (cs := [wMCo k a_p1 (a_p1in 0) (a_p1ou 0) (a_p1ru 0) (a_p1no 0) (a_p1fo 0) (a_p1rd 0) (a_p1pa 0) (svV sa_0 so_0) p1_0, wRules k a_p1ru p1ru_0, wCourt k a_p1no (u.1), wPast k a_p1pa (u.2.2.2) (u.2.1), wJArr k a_p3 1 (u.2.2.1)]) (fl5 _ _ _ _ _) rfl (by decide) rfl rfl) (fun r u H locs hp hW => ?_)
  obtain ⟨u0, u1, u2, pp_6⟩ := u
  try dsimp only at hp
  cases hp
  have hW : WD k A s.heap ((List.flatten [wMCo k a_p1 (a_p1in 0) (a_p1ou 0) (a_p1ru 0) (a_p1no 0) (a_p1fo 0) (a_p1rd 0) (a_p1pa 0) (svV sa_0 so_0) p1_0, wBytes k a_p1in 600 p1in_0, wBytes k a_p1ou 1024 p1ou_0, wRules k a_p1ru p1ru_0, wCourt k a_p1no p1no_2, wCourt k a_p1fo p1fo_0, wReader k a_p1rd (a_p1in 0) (a_p1fo 0) (a_p1rr 0) p1rd_0, wRules k a_p1rr p1rr_0, wPast k a_p1pa pp_6 p1pa_3, wModel k a_p2 p2_0, wJArr k a_p3 1 p3_4] ++ savW k sa_0 so_0) ++ poolW k pp_6 p1pa_3.2) H locs := hW
  refine k_istore (lv' := [(5, .int r_5), (0, .ref b), (1, .ref (a_p1 0)), (2, .ref (a_p2 0)), (3, .ref (a_p3 0)), (4, .int v4)]) E rfl hl dL_law_1231 (by decide) rfl (fun ls hl => ?_)
  refine k_aload_n E hl 3 dL_law_1233 rfl ?_
  refine k_aload_n E hl 1 dL_law_1234 rfl ?_
  refine k_iload E hl 5 dL_law_1235 rfl ?_
  refine lv_iconst (v := (1 : Int32)) E.hx E.hb dL_law_1237 ic_1 ?_
  refine lv_iadd E.hx E.hb dL_law_1238 ?_
  obtain ⟨hin, hf⟩ := oI hf
  obtain ⟨x_7, ex_7, hf⟩ := oL hf
  refine va_sld E.hx E.hb hX hbl hbA hW.2.2 hin dL_law_1239 ?_
  refine k_topi ex_7 ?_
  obtain ⟨p2_8, r_9, hg, hf⟩ := ob2 hf
  refine k_callVi (As := [.int x_7]) (rest := []) (ws2 := fun u => (List.flatten [wMCo k a_p1 (a_p1in 0) (a_p1ou 0) (a_p1ru 0) (a_p1no 0) (a_p1fo 0) (a_p1rd 0) (a_p1pa 0) (svV sa_0 so_0) p1_0, wBytes k a_p1in 600 p1in_0, wBytes k a_p1ou 1024 p1ou_0, wRules k a_p1ru p1ru_0, wCourt k a_p1no p1no_2, wCourt k a_p1fo p1fo_0, wReader k a_p1rd (a_p1in 0) (a_p1fo 0) (a_p1rr 0) p1rd_0, wRules k a_p1rr p1rr_0, wPast k a_p1pa pp_6 p1pa_3, wModel k a_p2 (u), wJArr k a_p3 1 p3_4] ++ savW k sa_0 so_0) ++ poolW k pp_6 p1pa_3.2) (c_X9_run n l k a_p2 p2_0 x_7 (p2_8, r_9) hg) E vl_L_219 dL_law_1240 rfl (posOf [1, 2, 2, 3, 12, 12, 1, 3, 2, 13, 1] [9]) 7 38 hW hA hl rfl (law_map (ln := [1, 2, 2, 3, 12, 12, 1, 3, 2, 13, 1]) (is := [9]) (cs := [wModel k a_p2 p2_0]) (fl1 _) rfl (by decide) rfl) rfl rfl ⟨Nat.le_of_ble_eq_true rfl, Nat.le_of_ble_eq_true rfl⟩ ⟨by show _ ≤ 601024; omega, by show _ ≤ 7293034; omega⟩ (Nat.le_of_ble_eq_true rfl) rfl (fun _ => rfl) (fun u => law_put (ln := [1, 2, 2, 3, 12, 12, 1, 3, 2, 13, 1]) (is := [9]) (cs0 := [wModel k a_p2 p2_0]) (cs := [wModel k a_p2 (u)]) (fl1 _) rfl (by decide) rfl rfl) (fun r u H locs hp hW => ?_)
  cases hp
  have hW : WD k A s.heap ((List.flatten [wMCo k a_p1 (a_p1in 0) (a_p1ou 0) (a_p1ru 0) (a_p1no 0) (a_p1fo 0) (a_p1rd 0) (a_p1pa 0) (svV sa_0 so_0) p1_0, wBytes k a_p1in 600 p1in_0, wBytes k a_p1ou 1024 p1ou_0, wRules k a_p1ru p1ru_0, wCourt k a_p1no p1no_2, wCourt k a_p1fo p1fo_0, wReader k a_p1rd (a_p1in 0) (a_p1fo 0) (a_p1rr 0) p1rd_0, wRules k a_p1rr p1rr_0, wPast k a_p1pa pp_6 p1pa_3, wModel k a_p2 p2_8, wJArr k a_p3 1 p3_4] ++ savW k sa_0 so_0) ++ poolW k pp_6 p1pa_3.2) H locs := hW
  refine k_istore (lv' := [(6, .int r_9), (5, .int r_5), (0, .ref b), (1, .ref (a_p1 0)), (2, .ref (a_p2 0)), (3, .ref (a_p3 0)), (4, .int v4)]) E rfl hl dL_law_1243 (by decide) rfl (fun ls hl => ?_)
  refine k_aload_n E hl 4 dL_law_1245 rfl ?_
  obtain ⟨r_10, hg, hf⟩ := ob hf
  refine k_callVi (As := []) (rest := []) (ws2 := fun u => (List.flatten [wMCo k a_p1 (a_p1in 0) (a_p1ou 0) (a_p1ru 0) (a_p1no 0) (a_p1fo 0) (a_p1rd 0) (a_p1pa 0) (svV sa_0 so_0) p1_0, wBytes k a_p1in 600 p1in_0, wBytes k a_p1ou 1024 p1ou_0, wRules k a_p1ru p1ru_0, wCourt k a_p1no p1no_2, wCourt k a_p1fo p1fo_0, wReader k a_p1rd (a_p1in 0) (a_p1fo 0) (a_p1rr 0) p1rd_0, wRules k a_p1rr p1rr_0, wPast k a_p1pa pp_6 p1pa_3, wModel k a_p2 p2_8, wJArr k a_p3 1 p3_4] ++ savW k sa_0 so_0) ++ poolW k pp_6 p1pa_3.2) (c_X9_thrown n l k a_p2 p2_8 r_10 hg) E vl_L_152 dL_law_1246 rfl (posOf [1, 2, 2, 3, 12, 12, 1, 3, 2, 13, 1] [9]) 7 38 hW hA hl rfl (law_map (ln := [1, 2, 2, 3, 12, 12, 1, 3, 2, 13, 1]) (is := [9]) (cs := [wModel k a_p2 p2_8]) (fl1 _) rfl (by decide) rfl) rfl rfl ⟨Nat.le_of_ble_eq_true rfl, Nat.le_of_ble_eq_true rfl⟩ ⟨by show _ ≤ 601024; omega, by show _ ≤ 7293034; omega⟩ (Nat.le_of_ble_eq_true rfl) rfl (fun _ => rfl) (fun u => law_put (ln := [1, 2, 2, 3, 12, 12, 1, 3, 2, 13, 1]) (is := [9]) (cs0 := [wModel k a_p2 p2_8]) (cs := [wModel k a_p2 p2_8]) (fl1 _) rfl (by decide) rfl rfl) (fun r u H locs hp hW => ?_)
  cases hp
  have hW : WD k A s.heap ((List.flatten [wMCo k a_p1 (a_p1in 0) (a_p1ou 0) (a_p1ru 0) (a_p1no 0) (a_p1fo 0) (a_p1rd 0) (a_p1pa 0) (svV sa_0 so_0) p1_0, wBytes k a_p1in 600 p1in_0, wBytes k a_p1ou 1024 p1ou_0, wRules k a_p1ru p1ru_0, wCourt k a_p1no p1no_2, wCourt k a_p1fo p1fo_0, wReader k a_p1rd (a_p1in 0) (a_p1fo 0) (a_p1rr 0) p1rd_0, wRules k a_p1rr p1rr_0, wPast k a_p1pa pp_6 p1pa_3, wModel k a_p2 p2_8, wJArr k a_p3 1 p3_4] ++ savW k sa_0 so_0) ++ poolW k pp_6 p1pa_3.2) H locs := hW
  refine k_iload E hl 1 dL_law_1249 rfl ?_
  refine lv_icmp_eq (tgt := 1256) E.hx E.hb dL_law_1251 (by decide) (fun hc => ?_) (fun hc => ?_)
  · have hf := oT hc hf
    refine k_iload E hl 1 dL_law_1256 rfl ?_
    refine lv_if_ne (tgt := 1273) E.hx E.hb dL_law_1258 (by decide) (fun hc => ?_) (fun hc => ?_)
    · have hf := oF hc hf
      refine lv_goto (tgt := 2474) E.hx E.hb dL_law_1273 (by decide) ?_
      exact hgo pp_6 sa_0 _ _ _ _ _ (by omega) (by omega) (by cases hf; exact hW) (lv_sub hl [2, 3, 4, 5, 6] rfl)
    · have hf := oT hc hf
      refine k_aload_n E hl 5 dL_law_1261 rfl ?_
      refine lv_iconst (v := (0 : Int32)) E.hx E.hb dL_law_1262 ic_0 ?_
      obtain ⟨hin, hf⟩ := oI hf
      obtain ⟨x_11, ex_11, hf⟩ := oL hf
      refine k_lald E hW 51 rfl hin dL_law_1263 ?_
      refine k_topl ex_11 ?_
      refine k_iload E hl 0 dL_law_1264 rfl ?_
      refine lv_i2l (v := (r_9).toInt64) E.hx E.hb dL_law_1266 rfl ?_
      refine W.lcmp E.hx E.hb dL_law_1267 ?_
      refine lv_if_eq (tgt := 1273) E.hx E.hb dL_law_1268 (by decide) (fun hc => ?_) (fun hc => ?_)
      · have hf := oT hc hf
        refine lv_goto (tgt := 2474) E.hx E.hb dL_law_1273 (by decide) ?_
        exact hgo pp_6 sa_0 _ _ _ _ _ (by omega) (by omega) (by cases hf; exact hW) (lv_sub hl [2, 3, 4, 5, 6] rfl)
      · have hf := oF hc hf
        refine lv_iconst (v := (0 : Int32)) E.hx E.hb dL_law_1271 ic_0 ?_
        exact o0 hf
  · have hf := oF hc hf
    refine lv_iconst (v := (0 : Int32)) E.hx E.hb dL_law_1254 ic_0 ?_
    exact o0 hf
def f_law_26 (n : Nat) (L : Nat) (xs : Nat → Int32) (v4 : Int32) (sv_0 : Value) (p1_0 : OS) (p1in_0 : OS) (p1ou_0 : OS) (p1ru_0 : OS) (p1no_0 : OS) (p1fo_0 : OS) (p1rd_0 : OS) (p1rr_0 : OS) (p1pa_0 : PS) (p2_0 : OS) (p3_0 : Nat → Int64) (so_0 : Option OS) : Option LST :=
  gI L (v4 + (1 : Int32)) (Let (xs (v4 + (1 : Int32)).toNatClampNeg) (fun x_1 : Int32 =>
  gI L (v4 + (2 : Int32)) (Let (xs (v4 + (2 : Int32)).toNatClampNeg) (fun x_2 : Int32 =>
  gI L (v4 + (3 : Int32)) (Let (xs (v4 + (3 : Int32)).toNatClampNeg) (fun x_3 : Int32 =>
  bnd4 (f_L_ask n sv_0 p1_0 p1ru_0 p1no_0 p1pa_0 1 p3_0 x_1 x_2 x_3) (fun (p1no_4 : OS) (p1pa_5 : PS) (p3_6 : Nat → Int64) (r_7 : Int32) =>
  gI L (v4 + (1 : Int32)) (Let (xs (v4 + (1 : Int32)).toNatClampNeg) (fun x_9 : Int32 =>
  gI L (v4 + (2 : Int32)) (Let (xs (v4 + (2 : Int32)).toNatClampNeg) (fun x_10 : Int32 =>
  gI L (v4 + (3 : Int32)) (Let (xs (v4 + (3 : Int32)).toNatClampNeg) (fun x_11 : Int32 =>
  bnd2 (f_X9_ask n p2_0 x_9 x_10 x_11) (fun (p2_12 : OS) (r_13 : Int32) =>
  bnd (f_X9_thrown n p2_12) (fun (r_14 : Int32) =>
  if r_14 = r_7 then (
  if r_7 = 0 then (
  gI 1 (0 : Int32) (Let (p3_6 (0 : Int32).toNatClampNeg) (fun x_15 : Int64 =>
  if (lg_cmp x_15 ((r_13).toInt64)) = 0 then (
  some (p1_0, p1in_0, p1ou_0, p1ru_0, p1no_4, p1fo_0, p1rd_0, p1rr_0, p1pa_5, p2_12, p3_6, so_0)) else (
  none)))) else (
  some (p1_0, p1in_0, p1ou_0, p1ru_0, p1no_4, p1fo_0, p1rd_0, p1rr_0, p1pa_5, p2_12, p3_6, so_0))) else (
  none))))))))))))))))
set_option maxHeartbeats 4000000 in
set_option maxRecDepth 100000 in
theorem c_law_26 {p : Program} {l : Launch} {e : Env} {s : State} {m : MethodId} {below : List Frame} {meth : Method} {c : Code} {A : Nat → Prop} {Q : State → Prop} {b L : Nat} {xs : Nat → Int32} {k : KT} (n : Nat) (hE : EH k) (hx : XH l k) (hN : CCH k) (E : E0 p s m c cL_law 9 RL k A) (hX : va_X b L xs s s.heap) (hbl : b < s.heap.size) (hbA : ¬ A b) (hA : ∀ q : Nat, s.heap.size ≤ q → A q) (a_p1 : Nat → Nat) (a_p1in : Nat → Nat) (a_p1ou : Nat → Nat) (a_p1ru : Nat → Nat) (a_p1no : Nat → Nat) (a_p1fo : Nat → Nat) (a_p1rd : Nat → Nat) (a_p1rr : Nat → Nat) (a_p1pa : Nat → Nat) (a_p2 : Nat → Nat) (a_p3 : Nat → Nat) (pp_0 : Nat → Nat → Nat) (sa_0 : Nat → Nat) (v4 : Int32) (p1_0 : OS) (p1in_0 : OS) (p1ou_0 : OS) (p1ru_0 : OS) (p1no_0 : OS) (p1fo_0 : OS) (p1rd_0 : OS) (p1rr_0 : OS) (p1pa_0 : PS) (p2_0 : OS) (p3_0 : Nat → Int64) (so_0 : Option OS) (res : LST) (hf : f_law_26 n L xs v4 (svV sa_0 so_0) p1_0 p1in_0 p1ou_0 p1ru_0 p1no_0 p1fo_0 p1rd_0 p1rr_0 p1pa_0 p2_0 p3_0 so_0 = some res)
    (H : Heap) (locs : List Loc) (ls : Array Slot) (c0 s0 : Nat) (hc0 : c0 + 40 ≤ 601024) (hs0 : s0 + 8000 ≤ 7293034) (hW : WD k A s.heap ((List.flatten [wMCo k a_p1 (a_p1in 0) (a_p1ou 0) (a_p1ru 0) (a_p1no 0) (a_p1fo 0) (a_p1rd 0) (a_p1pa 0) (svV sa_0 so_0) p1_0, wBytes k a_p1in 600 p1in_0, wBytes k a_p1ou 1024 p1ou_0, wRules k a_p1ru p1ru_0, wCourt k a_p1no p1no_0, wCourt k a_p1fo p1fo_0, wReader k a_p1rd (a_p1in 0) (a_p1fo 0) (a_p1rr 0) p1rd_0, wRules k a_p1rr p1rr_0, wPast k a_p1pa pp_0 p1pa_0, wModel k a_p2 p2_0, wJArr k a_p3 1 p3_0] ++ savW k sa_0 so_0) ++ poolW k pp_0 p1pa_0.2) H locs) (hl : lv_has ls 9 [(0, .ref b), (1, .ref (a_p1 0)), (2, .ref (a_p2 0)), (3, .ref (a_p3 0)), (4, .int v4)])
    (hgo : ∀ (pp : Nat → Nat → Nat) (sa : Nat → Nat) (H : Heap) (locs : List Loc) (ls : Array Slot) (cells slots : Nat), cells ≤ c0 + 40 → slots ≤ s0 + 8000 → WD k A s.heap ((List.flatten [wMCo k a_p1 (a_p1in 0) (a_p1ou 0) (a_p1ru 0) (a_p1no 0) (a_p1fo 0) (a_p1rd 0) (a_p1pa 0) (svV sa (res.2.2.2.2.2.2.2.2.2.2.2)) (res.1), wBytes k a_p1in 600 (res.2.1), wBytes k a_p1ou 1024 (res.2.2.1), wRules k a_p1ru (res.2.2.2.1), wCourt k a_p1no (res.2.2.2.2.1), wCourt k a_p1fo (res.2.2.2.2.2.1), wReader k a_p1rd (a_p1in 0) (a_p1fo 0) (a_p1rr 0) (res.2.2.2.2.2.2.1), wRules k a_p1rr (res.2.2.2.2.2.2.2.1), wPast k a_p1pa pp (res.2.2.2.2.2.2.2.2.1), wModel k a_p2 (res.2.2.2.2.2.2.2.2.2.1), wJArr k a_p3 1 (res.2.2.2.2.2.2.2.2.2.2.1)] ++ savW k sa (res.2.2.2.2.2.2.2.2.2.2.2)) ++ poolW k pp (res.2.2.2.2.2.2.2.2.1).2) H locs → lv_has ls 9 [(0, .ref b), (1, .ref (a_p1 0)), (2, .ref (a_p2 0)), (3, .ref (a_p3 0)), (4, .int v4)] → W p l e room_1 s m #[Value.ref b] below meth c H locs cells slots Q (F0 m 2474 ls [])) :
    W p l e room_1 s m #[Value.ref b] below meth c H locs c0 s0 Q (F0 m 1276 ls []) := by
  unfold f_law_26 at hf
  refine k_aload_n E hl 1 dL_law_1276 rfl ?_
  refine k_aload_n E hl 0 dL_law_1277 rfl ?_
  refine k_iload E hl 4 dL_law_1278 rfl ?_
  refine lv_iconst (v := (1 : Int32)) E.hx E.hb dL_law_1280 ic_1 ?_
  refine lv_iadd E.hx E.hb dL_law_1281 ?_
  obtain ⟨hin, hf⟩ := oI hf
  obtain ⟨x_1, ex_1, hf⟩ := oL hf
  refine va_sld E.hx E.hb hX hbl hbA hW.2.2 hin dL_law_1282 ?_
  refine k_topi ex_1 ?_
  refine k_aload_n E hl 0 dL_law_1283 rfl ?_
  refine k_iload E hl 4 dL_law_1284 rfl ?_
  refine lv_iconst (v := (2 : Int32)) E.hx E.hb dL_law_1286 ic_2 ?_
  refine lv_iadd E.hx E.hb dL_law_1287 ?_
  obtain ⟨hin, hf⟩ := oI hf
  obtain ⟨x_2, ex_2, hf⟩ := oL hf
  refine va_sld E.hx E.hb hX hbl hbA hW.2.2 hin dL_law_1288 ?_
  refine k_topi ex_2 ?_
  refine k_aload_n E hl 0 dL_law_1289 rfl ?_
  refine k_iload E hl 4 dL_law_1290 rfl ?_
  refine lv_iconst (v := (3 : Int32)) E.hx E.hb dL_law_1292 ic_3 ?_
  refine lv_iadd E.hx E.hb dL_law_1293 ?_
  obtain ⟨hin, hf⟩ := oI hf
  obtain ⟨x_3, ex_3, hf⟩ := oL hf
  refine va_sld E.hx E.hb hX hbl hbA hW.2.2 hin dL_law_1294 ?_
  refine k_topi ex_3 ?_
  refine k_aload_n E hl 3 dL_law_1295 rfl ?_
  obtain ⟨p1no_4, p1pa_5, p3_6, r_7, hg, hf⟩ := ob4 hf
  refine k_callSXGi (As := [.ref (a_p1 0), .int x_1, .int x_2, .int x_3, .ref (a_p3 0)]) (rest := []) (ws2 := fun u => (List.flatten [wMCo k a_p1 (a_p1in 0) (a_p1ou 0) (a_p1ru 0) (a_p1no 0) (a_p1fo 0) (a_p1rd 0) (a_p1pa 0) (svV sa_0 so_0) p1_0, wBytes k a_p1in 600 p1in_0, wBytes k a_p1ou 1024 p1ou_0, wRules k a_p1ru p1ru_0, wCourt k a_p1no (u.1), wCourt k a_p1fo p1fo_0, wReader k a_p1rd (a_p1in 0) (a_p1fo 0) (a_p1rr 0) p1rd_0, wRules k a_p1rr p1rr_0, wPast k a_p1pa (u.2.2.2) (u.2.1), wModel k a_p2 p2_0, wJArr k a_p3 1 (u.2.2.1)] ++ savW k sa_0 so_0) ++ poolW k (u.2.2.2) (u.2.1).2) (c_L_ask n l k hN hx a_p1 a_p1in a_p1ou a_p1ru a_p1no a_p1fo a_p1rd a_p1pa a_p3 pp_0 (svV sa_0 so_0) p1_0 p1ru_0 p1no_0 p1pa_0 1 p3_0 x_1 x_2 x_3 (p1no_4, p1pa_5, p3_6, r_7) hg) E sw_220 rfl dL_law_1296 rfl (posOf [1, 2, 2, 3, 12, 12, 1, 3, 2, 13, 1] [0, 3, 4, 8, 10]) hW hA hl rfl (law_mapG (ln := [1, 2, 2, 3, 12, 12, 1, 3, 2, 13, 1]) (is := [0, 3, 4, 8, 10]) (cs := [wMCo k a_p1 (a_p1in 0) (a_p1ou 0) (a_p1ru 0) (a_p1no 0) (a_p1fo 0) (a_p1rd 0) (a_p1pa 0) (svV sa_0 so_0) p1_0, wRules k a_p1ru p1ru_0, wCourt k a_p1no p1no_0, wPast k a_p1pa pp_0 p1pa_0, wJArr k a_p3 1 p3_0]) (fl5 _ _ _ _ _) rfl (by decide) rfl) ⟨Nat.le_of_ble_eq_true rfl, Nat.le_of_ble_eq_true rfl⟩ ⟨by show _ ≤ 601024; omega, by show _ ≤ 7293034; omega⟩ (Nat.le_of_ble_eq_true rfl) rfl (fun _ => rfl) (fun u => law_putG (ln := [1, 2, 2, 3, 12, 12, 1, 3, 2, 13, 1]) (is := [0, 3, 4, 8, 10]) (cs0 := [wMCo k a_p1 (a_p1in 0) (a_p1ou 0) (a_p1ru 0) (a_p1no 0) (a_p1fo 0) (a_p1rd 0) (a_p1pa 0) (svV sa_0 so_0) p1_0, wRules k a_p1ru p1ru_0, wCourt k a_p1no p1no_0, wPast k a_p1pa pp_0 p1pa_0, wJArr k a_p3 1 p3_0]) (cs := [wMCo k a_p1 (a_p1in 0) (a_p1ou 0) (a_p1ru 0) (a_p1no 0) (a_p1fo 0) (a_p1rd 0) (a_p1pa 0) (svV sa_0 so_0) p1_0, wRules k a_p1ru p1ru_0, wCourt k a_p1no (u.1), wPast k a_p1pa (u.2.2.2) (u.2.1), wJArr k a_p3 1 (u.2.2.1)]) (fl5 _ _ _ _ _) rfl (by decide) rfl rfl) (fun r u H locs hp hW => ?_)
  obtain ⟨u0, u1, u2, pp_8⟩ := u
  try dsimp only at hp
  cases hp
  have hW : WD k A s.heap ((List.flatten [wMCo k a_p1 (a_p1in 0) (a_p1ou 0) (a_p1ru 0) (a_p1no 0) (a_p1fo 0) (a_p1rd 0) (a_p1pa 0) (svV sa_0 so_0) p1_0, wBytes k a_p1in 600 p1in_0, wBytes k a_p1ou 1024 p1ou_0, wRules k a_p1ru p1ru_0, wCourt k a_p1no p1no_4, wCourt k a_p1fo p1fo_0, wReader k a_p1rd (a_p1in 0) (a_p1fo 0) (a_p1rr 0) p1rd_0, wRules k a_p1rr p1rr_0, wPast k a_p1pa pp_8 p1pa_5, wModel k a_p2 p2_0, wJArr k a_p3 1 p3_6] ++ savW k sa_0 so_0) ++ poolW k pp_8 p1pa_5.2) H locs := hW
  refine k_istore (lv' := [(5, .int r_7), (0, .ref b), (1, .ref (a_p1 0)), (2, .ref (a_p2 0)), (3, .ref (a_p3 0)), (4, .int v4)]) E rfl hl dL_law_1299 (by decide) rfl (fun ls hl => ?_)
  refine k_aload_n E hl 3 dL_law_1301 rfl ?_
  refine k_aload_n E hl 1 dL_law_1302 rfl ?_
  refine k_iload E hl 5 dL_law_1303 rfl ?_
  refine lv_iconst (v := (1 : Int32)) E.hx E.hb dL_law_1305 ic_1 ?_
  refine lv_iadd E.hx E.hb dL_law_1306 ?_
  obtain ⟨hin, hf⟩ := oI hf
  obtain ⟨x_9, ex_9, hf⟩ := oL hf
  refine va_sld E.hx E.hb hX hbl hbA hW.2.2 hin dL_law_1307 ?_
  refine k_topi ex_9 ?_
  refine k_aload_n E hl 1 dL_law_1308 rfl ?_
  refine k_iload E hl 5 dL_law_1309 rfl ?_
  refine lv_iconst (v := (2 : Int32)) E.hx E.hb dL_law_1311 ic_2 ?_
  refine lv_iadd E.hx E.hb dL_law_1312 ?_
  obtain ⟨hin, hf⟩ := oI hf
  obtain ⟨x_10, ex_10, hf⟩ := oL hf
  refine va_sld E.hx E.hb hX hbl hbA hW.2.2 hin dL_law_1313 ?_
  refine k_topi ex_10 ?_
  refine k_aload_n E hl 1 dL_law_1314 rfl ?_
  refine k_iload E hl 5 dL_law_1315 rfl ?_
  refine lv_iconst (v := (3 : Int32)) E.hx E.hb dL_law_1317 ic_3 ?_
  refine lv_iadd E.hx E.hb dL_law_1318 ?_
  obtain ⟨hin, hf⟩ := oI hf
  obtain ⟨x_11, ex_11, hf⟩ := oL hf
  refine va_sld E.hx E.hb hX hbl hbA hW.2.2 hin dL_law_1319 ?_
  refine k_topi ex_11 ?_
  obtain ⟨p2_12, r_13, hg, hf⟩ := ob2 hf
  refine k_callVi (As := [.int x_9, .int x_10, .int x_11]) (rest := []) (ws2 := fun u => (List.flatten [wMCo k a_p1 (a_p1in 0) (a_p1ou 0) (a_p1ru 0) (a_p1no 0) (a_p1fo 0) (a_p1rd 0) (a_p1pa 0) (svV sa_0 so_0) p1_0, wBytes k a_p1in 600 p1in_0, wBytes k a_p1ou 1024 p1ou_0, wRules k a_p1ru p1ru_0, wCourt k a_p1no p1no_4, wCourt k a_p1fo p1fo_0, wReader k a_p1rd (a_p1in 0) (a_p1fo 0) (a_p1rr 0) p1rd_0, wRules k a_p1rr p1rr_0, wPast k a_p1pa pp_8 p1pa_5, wModel k a_p2 (u), wJArr k a_p3 1 p3_6] ++ savW k sa_0 so_0) ++ poolW k pp_8 p1pa_5.2) (c_X9_ask n l k a_p2 p2_0 x_9 x_10 x_11 (p2_12, r_13) hg) E vl_L_223 dL_law_1320 rfl (posOf [1, 2, 2, 3, 12, 12, 1, 3, 2, 13, 1] [9]) 7 38 hW hA hl rfl (law_map (ln := [1, 2, 2, 3, 12, 12, 1, 3, 2, 13, 1]) (is := [9]) (cs := [wModel k a_p2 p2_0]) (fl1 _) rfl (by decide) rfl) rfl rfl ⟨Nat.le_of_ble_eq_true rfl, Nat.le_of_ble_eq_true rfl⟩ ⟨by show _ ≤ 601024; omega, by show _ ≤ 7293034; omega⟩ (Nat.le_of_ble_eq_true rfl) rfl (fun _ => rfl) (fun u => law_put (ln := [1, 2, 2, 3, 12, 12, 1, 3, 2, 13, 1]) (is := [9]) (cs0 := [wModel k a_p2 p2_0]) (cs := [wModel k a_p2 (u)]) (fl1 _) rfl (by decide) rfl rfl) (fun r u H locs hp hW => ?_)
  cases hp
  have hW : WD k A s.heap ((List.flatten [wMCo k a_p1 (a_p1in 0) (a_p1ou 0) (a_p1ru 0) (a_p1no 0) (a_p1fo 0) (a_p1rd 0) (a_p1pa 0) (svV sa_0 so_0) p1_0, wBytes k a_p1in 600 p1in_0, wBytes k a_p1ou 1024 p1ou_0, wRules k a_p1ru p1ru_0, wCourt k a_p1no p1no_4, wCourt k a_p1fo p1fo_0, wReader k a_p1rd (a_p1in 0) (a_p1fo 0) (a_p1rr 0) p1rd_0, wRules k a_p1rr p1rr_0, wPast k a_p1pa pp_8 p1pa_5, wModel k a_p2 p2_12, wJArr k a_p3 1 p3_6] ++ savW k sa_0 so_0) ++ poolW k pp_8 p1pa_5.2) H locs := hW
  refine k_istore (lv' := [(6, .int r_13), (5, .int r_7), (0, .ref b), (1, .ref (a_p1 0)), (2, .ref (a_p2 0)), (3, .ref (a_p3 0)), (4, .int v4)]) E rfl hl dL_law_1323 (by decide) rfl (fun ls hl => ?_)
  refine k_aload_n E hl 4 dL_law_1325 rfl ?_
  obtain ⟨r_14, hg, hf⟩ := ob hf
  refine k_callVi (As := []) (rest := []) (ws2 := fun u => (List.flatten [wMCo k a_p1 (a_p1in 0) (a_p1ou 0) (a_p1ru 0) (a_p1no 0) (a_p1fo 0) (a_p1rd 0) (a_p1pa 0) (svV sa_0 so_0) p1_0, wBytes k a_p1in 600 p1in_0, wBytes k a_p1ou 1024 p1ou_0, wRules k a_p1ru p1ru_0, wCourt k a_p1no p1no_4, wCourt k a_p1fo p1fo_0, wReader k a_p1rd (a_p1in 0) (a_p1fo 0) (a_p1rr 0) p1rd_0, wRules k a_p1rr p1rr_0, wPast k a_p1pa pp_8 p1pa_5, wModel k a_p2 p2_12, wJArr k a_p3 1 p3_6] ++ savW k sa_0 so_0) ++ poolW k pp_8 p1pa_5.2) (c_X9_thrown n l k a_p2 p2_12 r_14 hg) E vl_L_152 dL_law_1326 rfl (posOf [1, 2, 2, 3, 12, 12, 1, 3, 2, 13, 1] [9]) 7 38 hW hA hl rfl (law_map (ln := [1, 2, 2, 3, 12, 12, 1, 3, 2, 13, 1]) (is := [9]) (cs := [wModel k a_p2 p2_12]) (fl1 _) rfl (by decide) rfl) rfl rfl ⟨Nat.le_of_ble_eq_true rfl, Nat.le_of_ble_eq_true rfl⟩ ⟨by show _ ≤ 601024; omega, by show _ ≤ 7293034; omega⟩ (Nat.le_of_ble_eq_true rfl) rfl (fun _ => rfl) (fun u => law_put (ln := [1, 2, 2, 3, 12, 12, 1, 3, 2, 13, 1]) (is := [9]) (cs0 := [wModel k a_p2 p2_12]) (cs := [wModel k a_p2 p2_12]) (fl1 _) rfl (by decide) rfl rfl) (fun r u H locs hp hW => ?_)
  cases hp
  have hW : WD k A s.heap ((List.flatten [wMCo k a_p1 (a_p1in 0) (a_p1ou 0) (a_p1ru 0) (a_p1no 0) (a_p1fo 0) (a_p1rd 0) (a_p1pa 0) (svV sa_0 so_0) p1_0, wBytes k a_p1in 600 p1in_0, wBytes k a_p1ou 1024 p1ou_0, wRules k a_p1ru p1ru_0, wCourt k a_p1no p1no_4, wCourt k a_p1fo p1fo_0, wReader k a_p1rd (a_p1in 0) (a_p1fo 0) (a_p1rr 0) p1rd_0, wRules k a_p1rr p1rr_0, wPast k a_p1pa pp_8 p1pa_5, wModel k a_p2 p2_12, wJArr k a_p3 1 p3_6] ++ savW k sa_0 so_0) ++ poolW k pp_8 p1pa_5.2) H locs := hW
  refine k_iload E hl 1 dL_law_1329 rfl ?_
  refine lv_icmp_eq (tgt := 1336) E.hx E.hb dL_law_1331 (by decide) (fun hc => ?_) (fun hc => ?_)
  · have hf := oT hc hf
    refine k_iload E hl 1 dL_law_1336 rfl ?_
    refine lv_if_ne (tgt := 1353) E.hx E.hb dL_law_1338 (by decide) (fun hc => ?_) (fun hc => ?_)
    · have hf := oF hc hf
      refine lv_goto (tgt := 2474) E.hx E.hb dL_law_1353 (by decide) ?_
      exact hgo pp_8 sa_0 _ _ _ _ _ (by omega) (by omega) (by cases hf; exact hW) (lv_sub hl [2, 3, 4, 5, 6] rfl)
    · have hf := oT hc hf
      refine k_aload_n E hl 5 dL_law_1341 rfl ?_
      refine lv_iconst (v := (0 : Int32)) E.hx E.hb dL_law_1342 ic_0 ?_
      obtain ⟨hin, hf⟩ := oI hf
      obtain ⟨x_15, ex_15, hf⟩ := oL hf
      refine k_lald E hW 51 rfl hin dL_law_1343 ?_
      refine k_topl ex_15 ?_
      refine k_iload E hl 0 dL_law_1344 rfl ?_
      refine lv_i2l (v := (r_13).toInt64) E.hx E.hb dL_law_1346 rfl ?_
      refine W.lcmp E.hx E.hb dL_law_1347 ?_
      refine lv_if_eq (tgt := 1353) E.hx E.hb dL_law_1348 (by decide) (fun hc => ?_) (fun hc => ?_)
      · have hf := oT hc hf
        refine lv_goto (tgt := 2474) E.hx E.hb dL_law_1353 (by decide) ?_
        exact hgo pp_8 sa_0 _ _ _ _ _ (by omega) (by omega) (by cases hf; exact hW) (lv_sub hl [2, 3, 4, 5, 6] rfl)
      · have hf := oF hc hf
        refine lv_iconst (v := (0 : Int32)) E.hx E.hb dL_law_1351 ic_0 ?_
        exact o0 hf
  · have hf := oF hc hf
    refine lv_iconst (v := (0 : Int32)) E.hx E.hb dL_law_1334 ic_0 ?_
    exact o0 hf
def f_law_27 (n : Nat) (L : Nat) (xs : Nat → Int32) (v4 : Int32) (sv_0 : Value) (p1_0 : OS) (p1in_0 : OS) (p1ou_0 : OS) (p1ru_0 : OS) (p1no_0 : OS) (p1fo_0 : OS) (p1rd_0 : OS) (p1rr_0 : OS) (p1pa_0 : PS) (p2_0 : OS) (p3_0 : Nat → Int64) (so_0 : Option OS) : Option LST :=
  gI L (v4 + (1 : Int32)) (Let (xs (v4 + (1 : Int32)).toNatClampNeg) (fun x_1 : Int32 =>
  bnd4 (f_L_withdraw n sv_0 p1_0 p1no_0 p1pa_0 1 p3_0 x_1) (fun (p1no_2 : OS) (p1pa_3 : PS) (p3_4 : Nat → Int64) (r_5 : Int32) =>
  gI L (v4 + (1 : Int32)) (Let (xs (v4 + (1 : Int32)).toNatClampNeg) (fun x_7 : Int32 =>
  bnd2 (f_X9_withdraw n p2_0 x_7) (fun (p2_8 : OS) (r_9 : Int32) =>
  bnd (f_X9_thrown n p2_8) (fun (r_10 : Int32) =>
  if r_10 = r_5 then (
  if r_5 = 0 then (
  gI 1 (0 : Int32) (Let (p3_4 (0 : Int32).toNatClampNeg) (fun x_11 : Int64 =>
  if (lg_cmp x_11 ((r_9).toInt64)) = 0 then (
  some (p1_0, p1in_0, p1ou_0, p1ru_0, p1no_2, p1fo_0, p1rd_0, p1rr_0, p1pa_3, p2_8, p3_4, so_0)) else (
  none)))) else (
  some (p1_0, p1in_0, p1ou_0, p1ru_0, p1no_2, p1fo_0, p1rd_0, p1rr_0, p1pa_3, p2_8, p3_4, so_0))) else (
  none))))))))
set_option maxHeartbeats 4000000 in
set_option maxRecDepth 100000 in
theorem c_law_27 {p : Program} {l : Launch} {e : Env} {s : State} {m : MethodId} {below : List Frame} {meth : Method} {c : Code} {A : Nat → Prop} {Q : State → Prop} {b L : Nat} {xs : Nat → Int32} {k : KT} (n : Nat) (hE : EH k) (hx : XH l k) (hN : CCH k) (E : E0 p s m c cL_law 9 RL k A) (hX : va_X b L xs s s.heap) (hbl : b < s.heap.size) (hbA : ¬ A b) (hA : ∀ q : Nat, s.heap.size ≤ q → A q) (a_p1 : Nat → Nat) (a_p1in : Nat → Nat) (a_p1ou : Nat → Nat) (a_p1ru : Nat → Nat) (a_p1no : Nat → Nat) (a_p1fo : Nat → Nat) (a_p1rd : Nat → Nat) (a_p1rr : Nat → Nat) (a_p1pa : Nat → Nat) (a_p2 : Nat → Nat) (a_p3 : Nat → Nat) (pp_0 : Nat → Nat → Nat) (sa_0 : Nat → Nat) (v4 : Int32) (p1_0 : OS) (p1in_0 : OS) (p1ou_0 : OS) (p1ru_0 : OS) (p1no_0 : OS) (p1fo_0 : OS) (p1rd_0 : OS) (p1rr_0 : OS) (p1pa_0 : PS) (p2_0 : OS) (p3_0 : Nat → Int64) (so_0 : Option OS) (res : LST) (hf : f_law_27 n L xs v4 (svV sa_0 so_0) p1_0 p1in_0 p1ou_0 p1ru_0 p1no_0 p1fo_0 p1rd_0 p1rr_0 p1pa_0 p2_0 p3_0 so_0 = some res)
    (H : Heap) (locs : List Loc) (ls : Array Slot) (c0 s0 : Nat) (hc0 : c0 + 40 ≤ 601024) (hs0 : s0 + 8000 ≤ 7293034) (hW : WD k A s.heap ((List.flatten [wMCo k a_p1 (a_p1in 0) (a_p1ou 0) (a_p1ru 0) (a_p1no 0) (a_p1fo 0) (a_p1rd 0) (a_p1pa 0) (svV sa_0 so_0) p1_0, wBytes k a_p1in 600 p1in_0, wBytes k a_p1ou 1024 p1ou_0, wRules k a_p1ru p1ru_0, wCourt k a_p1no p1no_0, wCourt k a_p1fo p1fo_0, wReader k a_p1rd (a_p1in 0) (a_p1fo 0) (a_p1rr 0) p1rd_0, wRules k a_p1rr p1rr_0, wPast k a_p1pa pp_0 p1pa_0, wModel k a_p2 p2_0, wJArr k a_p3 1 p3_0] ++ savW k sa_0 so_0) ++ poolW k pp_0 p1pa_0.2) H locs) (hl : lv_has ls 9 [(0, .ref b), (1, .ref (a_p1 0)), (2, .ref (a_p2 0)), (3, .ref (a_p3 0)), (4, .int v4)])
    (hgo : ∀ (pp : Nat → Nat → Nat) (sa : Nat → Nat) (H : Heap) (locs : List Loc) (ls : Array Slot) (cells slots : Nat), cells ≤ c0 + 40 → slots ≤ s0 + 8000 → WD k A s.heap ((List.flatten [wMCo k a_p1 (a_p1in 0) (a_p1ou 0) (a_p1ru 0) (a_p1no 0) (a_p1fo 0) (a_p1rd 0) (a_p1pa 0) (svV sa (res.2.2.2.2.2.2.2.2.2.2.2)) (res.1), wBytes k a_p1in 600 (res.2.1), wBytes k a_p1ou 1024 (res.2.2.1), wRules k a_p1ru (res.2.2.2.1), wCourt k a_p1no (res.2.2.2.2.1), wCourt k a_p1fo (res.2.2.2.2.2.1), wReader k a_p1rd (a_p1in 0) (a_p1fo 0) (a_p1rr 0) (res.2.2.2.2.2.2.1), wRules k a_p1rr (res.2.2.2.2.2.2.2.1), wPast k a_p1pa pp (res.2.2.2.2.2.2.2.2.1), wModel k a_p2 (res.2.2.2.2.2.2.2.2.2.1), wJArr k a_p3 1 (res.2.2.2.2.2.2.2.2.2.2.1)] ++ savW k sa (res.2.2.2.2.2.2.2.2.2.2.2)) ++ poolW k pp (res.2.2.2.2.2.2.2.2.1).2) H locs → lv_has ls 9 [(0, .ref b), (1, .ref (a_p1 0)), (2, .ref (a_p2 0)), (3, .ref (a_p3 0)), (4, .int v4)] → W p l e room_1 s m #[Value.ref b] below meth c H locs cells slots Q (F0 m 2474 ls [])) :
    W p l e room_1 s m #[Value.ref b] below meth c H locs c0 s0 Q (F0 m 1356 ls []) := by
  unfold f_law_27 at hf
  refine k_aload_n E hl 1 dL_law_1356 rfl ?_
  refine k_aload_n E hl 0 dL_law_1357 rfl ?_
  refine k_iload E hl 4 dL_law_1358 rfl ?_
  refine lv_iconst (v := (1 : Int32)) E.hx E.hb dL_law_1360 ic_1 ?_
  refine lv_iadd E.hx E.hb dL_law_1361 ?_
  obtain ⟨hin, hf⟩ := oI hf
  obtain ⟨x_1, ex_1, hf⟩ := oL hf
  refine va_sld E.hx E.hb hX hbl hbA hW.2.2 hin dL_law_1362 ?_
  refine k_topi ex_1 ?_
  refine k_aload_n E hl 3 dL_law_1363 rfl ?_
  obtain ⟨p1no_2, p1pa_3, p3_4, r_5, hg, hf⟩ := ob4 hf
  refine k_callSXGi (As := [.ref (a_p1 0), .int x_1, .ref (a_p3 0)]) (rest := []) (ws2 := fun u => (List.flatten [wMCo k a_p1 (a_p1in 0) (a_p1ou 0) (a_p1ru 0) (a_p1no 0) (a_p1fo 0) (a_p1rd 0) (a_p1pa 0) (svV sa_0 so_0) p1_0, wBytes k a_p1in 600 p1in_0, wBytes k a_p1ou 1024 p1ou_0, wRules k a_p1ru p1ru_0, wCourt k a_p1no (u.1), wCourt k a_p1fo p1fo_0, wReader k a_p1rd (a_p1in 0) (a_p1fo 0) (a_p1rr 0) p1rd_0, wRules k a_p1rr p1rr_0, wPast k a_p1pa (u.2.2.2) (u.2.1), wModel k a_p2 p2_0, wJArr k a_p3 1 (u.2.2.1)] ++ savW k sa_0 so_0) ++ poolW k (u.2.2.2) (u.2.1).2) (c_L_withdraw n l k hN hx a_p1 a_p1in a_p1ou a_p1ru a_p1no a_p1fo a_p1rd a_p1pa a_p3 pp_0 (svV sa_0 so_0) p1_0 p1no_0 p1pa_0 1 p3_0 x_1 (p1no_2, p1pa_3, p3_4, r_5) hg) E sw_224 rfl dL_law_1364 rfl (posOf [1, 2, 2, 3, 12, 12, 1, 3, 2, 13, 1] [0, 4, 8, 10]) hW hA hl rfl (law_mapG (ln := [1, 2, 2, 3, 12, 12, 1, 3, 2, 13, 1]) (is := [0, 4, 8, 10]) (cs := [wMCo k a_p1 (a_p1in 0) (a_p1ou 0) (a_p1ru 0) (a_p1no 0) (a_p1fo 0) (a_p1rd 0) (a_p1pa 0) (svV sa_0 so_0) p1_0, wCourt k a_p1no p1no_0, wPast k a_p1pa pp_0 p1pa_0, wJArr k a_p3 1 p3_0]) (fl4 _ _ _ _) rfl (by decide) rfl) ⟨Nat.le_of_ble_eq_true rfl, Nat.le_of_ble_eq_true rfl⟩ ⟨by show _ ≤ 601024; omega, by show _ ≤ 7293034; omega⟩ (Nat.le_of_ble_eq_true rfl) rfl (fun _ => rfl) (fun u => law_putG (ln := [1, 2, 2, 3, 12, 12, 1, 3, 2, 13, 1]) (is := [0, 4, 8, 10]) (cs0 := [wMCo k a_p1 (a_p1in 0) (a_p1ou 0) (a_p1ru 0) (a_p1no 0) (a_p1fo 0) (a_p1rd 0) (a_p1pa 0) (svV sa_0 so_0) p1_0, wCourt k a_p1no p1no_0, wPast k a_p1pa pp_0 p1pa_0, wJArr k a_p3 1 p3_0]) (cs := [wMCo k a_p1 (a_p1in 0) (a_p1ou 0) (a_p1ru 0) (a_p1no 0) (a_p1fo 0) (a_p1rd 0) (a_p1pa 0) (svV sa_0 so_0) p1_0, wCourt k a_p1no (u.1), wPast k a_p1pa (u.2.2.2) (u.2.1), wJArr k a_p3 1 (u.2.2.1)]) (fl4 _ _ _ _) rfl (by decide) rfl rfl) (fun r u H locs hp hW => ?_)
  obtain ⟨u0, u1, u2, pp_6⟩ := u
  try dsimp only at hp
  cases hp
  have hW : WD k A s.heap ((List.flatten [wMCo k a_p1 (a_p1in 0) (a_p1ou 0) (a_p1ru 0) (a_p1no 0) (a_p1fo 0) (a_p1rd 0) (a_p1pa 0) (svV sa_0 so_0) p1_0, wBytes k a_p1in 600 p1in_0, wBytes k a_p1ou 1024 p1ou_0, wRules k a_p1ru p1ru_0, wCourt k a_p1no p1no_2, wCourt k a_p1fo p1fo_0, wReader k a_p1rd (a_p1in 0) (a_p1fo 0) (a_p1rr 0) p1rd_0, wRules k a_p1rr p1rr_0, wPast k a_p1pa pp_6 p1pa_3, wModel k a_p2 p2_0, wJArr k a_p3 1 p3_4] ++ savW k sa_0 so_0) ++ poolW k pp_6 p1pa_3.2) H locs := hW
  refine k_istore (lv' := [(5, .int r_5), (0, .ref b), (1, .ref (a_p1 0)), (2, .ref (a_p2 0)), (3, .ref (a_p3 0)), (4, .int v4)]) E rfl hl dL_law_1367 (by decide) rfl (fun ls hl => ?_)
  refine k_aload_n E hl 3 dL_law_1369 rfl ?_
  refine k_aload_n E hl 1 dL_law_1370 rfl ?_
  refine k_iload E hl 5 dL_law_1371 rfl ?_
  refine lv_iconst (v := (1 : Int32)) E.hx E.hb dL_law_1373 ic_1 ?_
  refine lv_iadd E.hx E.hb dL_law_1374 ?_
  obtain ⟨hin, hf⟩ := oI hf
  obtain ⟨x_7, ex_7, hf⟩ := oL hf
  refine va_sld E.hx E.hb hX hbl hbA hW.2.2 hin dL_law_1375 ?_
  refine k_topi ex_7 ?_
  obtain ⟨p2_8, r_9, hg, hf⟩ := ob2 hf
  refine k_callVi (As := [.int x_7]) (rest := []) (ws2 := fun u => (List.flatten [wMCo k a_p1 (a_p1in 0) (a_p1ou 0) (a_p1ru 0) (a_p1no 0) (a_p1fo 0) (a_p1rd 0) (a_p1pa 0) (svV sa_0 so_0) p1_0, wBytes k a_p1in 600 p1in_0, wBytes k a_p1ou 1024 p1ou_0, wRules k a_p1ru p1ru_0, wCourt k a_p1no p1no_2, wCourt k a_p1fo p1fo_0, wReader k a_p1rd (a_p1in 0) (a_p1fo 0) (a_p1rr 0) p1rd_0, wRules k a_p1rr p1rr_0, wPast k a_p1pa pp_6 p1pa_3, wModel k a_p2 (u), wJArr k a_p3 1 p3_4] ++ savW k sa_0 so_0) ++ poolW k pp_6 p1pa_3.2) (c_X9_withdraw n l k a_p2 p2_0 x_7 (p2_8, r_9) hg) E vl_L_226 dL_law_1376 rfl (posOf [1, 2, 2, 3, 12, 12, 1, 3, 2, 13, 1] [9]) 7 38 hW hA hl rfl (law_map (ln := [1, 2, 2, 3, 12, 12, 1, 3, 2, 13, 1]) (is := [9]) (cs := [wModel k a_p2 p2_0]) (fl1 _) rfl (by decide) rfl) rfl rfl ⟨Nat.le_of_ble_eq_true rfl, Nat.le_of_ble_eq_true rfl⟩ ⟨by show _ ≤ 601024; omega, by show _ ≤ 7293034; omega⟩ (Nat.le_of_ble_eq_true rfl) rfl (fun _ => rfl) (fun u => law_put (ln := [1, 2, 2, 3, 12, 12, 1, 3, 2, 13, 1]) (is := [9]) (cs0 := [wModel k a_p2 p2_0]) (cs := [wModel k a_p2 (u)]) (fl1 _) rfl (by decide) rfl rfl) (fun r u H locs hp hW => ?_)
  cases hp
  have hW : WD k A s.heap ((List.flatten [wMCo k a_p1 (a_p1in 0) (a_p1ou 0) (a_p1ru 0) (a_p1no 0) (a_p1fo 0) (a_p1rd 0) (a_p1pa 0) (svV sa_0 so_0) p1_0, wBytes k a_p1in 600 p1in_0, wBytes k a_p1ou 1024 p1ou_0, wRules k a_p1ru p1ru_0, wCourt k a_p1no p1no_2, wCourt k a_p1fo p1fo_0, wReader k a_p1rd (a_p1in 0) (a_p1fo 0) (a_p1rr 0) p1rd_0, wRules k a_p1rr p1rr_0, wPast k a_p1pa pp_6 p1pa_3, wModel k a_p2 p2_8, wJArr k a_p3 1 p3_4] ++ savW k sa_0 so_0) ++ poolW k pp_6 p1pa_3.2) H locs := hW
  refine k_istore (lv' := [(6, .int r_9), (5, .int r_5), (0, .ref b), (1, .ref (a_p1 0)), (2, .ref (a_p2 0)), (3, .ref (a_p3 0)), (4, .int v4)]) E rfl hl dL_law_1379 (by decide) rfl (fun ls hl => ?_)
  refine k_aload_n E hl 4 dL_law_1381 rfl ?_
  obtain ⟨r_10, hg, hf⟩ := ob hf
  refine k_callVi (As := []) (rest := []) (ws2 := fun u => (List.flatten [wMCo k a_p1 (a_p1in 0) (a_p1ou 0) (a_p1ru 0) (a_p1no 0) (a_p1fo 0) (a_p1rd 0) (a_p1pa 0) (svV sa_0 so_0) p1_0, wBytes k a_p1in 600 p1in_0, wBytes k a_p1ou 1024 p1ou_0, wRules k a_p1ru p1ru_0, wCourt k a_p1no p1no_2, wCourt k a_p1fo p1fo_0, wReader k a_p1rd (a_p1in 0) (a_p1fo 0) (a_p1rr 0) p1rd_0, wRules k a_p1rr p1rr_0, wPast k a_p1pa pp_6 p1pa_3, wModel k a_p2 p2_8, wJArr k a_p3 1 p3_4] ++ savW k sa_0 so_0) ++ poolW k pp_6 p1pa_3.2) (c_X9_thrown n l k a_p2 p2_8 r_10 hg) E vl_L_152 dL_law_1382 rfl (posOf [1, 2, 2, 3, 12, 12, 1, 3, 2, 13, 1] [9]) 7 38 hW hA hl rfl (law_map (ln := [1, 2, 2, 3, 12, 12, 1, 3, 2, 13, 1]) (is := [9]) (cs := [wModel k a_p2 p2_8]) (fl1 _) rfl (by decide) rfl) rfl rfl ⟨Nat.le_of_ble_eq_true rfl, Nat.le_of_ble_eq_true rfl⟩ ⟨by show _ ≤ 601024; omega, by show _ ≤ 7293034; omega⟩ (Nat.le_of_ble_eq_true rfl) rfl (fun _ => rfl) (fun u => law_put (ln := [1, 2, 2, 3, 12, 12, 1, 3, 2, 13, 1]) (is := [9]) (cs0 := [wModel k a_p2 p2_8]) (cs := [wModel k a_p2 p2_8]) (fl1 _) rfl (by decide) rfl rfl) (fun r u H locs hp hW => ?_)
  cases hp
  have hW : WD k A s.heap ((List.flatten [wMCo k a_p1 (a_p1in 0) (a_p1ou 0) (a_p1ru 0) (a_p1no 0) (a_p1fo 0) (a_p1rd 0) (a_p1pa 0) (svV sa_0 so_0) p1_0, wBytes k a_p1in 600 p1in_0, wBytes k a_p1ou 1024 p1ou_0, wRules k a_p1ru p1ru_0, wCourt k a_p1no p1no_2, wCourt k a_p1fo p1fo_0, wReader k a_p1rd (a_p1in 0) (a_p1fo 0) (a_p1rr 0) p1rd_0, wRules k a_p1rr p1rr_0, wPast k a_p1pa pp_6 p1pa_3, wModel k a_p2 p2_8, wJArr k a_p3 1 p3_4] ++ savW k sa_0 so_0) ++ poolW k pp_6 p1pa_3.2) H locs := hW
  refine k_iload E hl 1 dL_law_1385 rfl ?_
  refine lv_icmp_eq (tgt := 1392) E.hx E.hb dL_law_1387 (by decide) (fun hc => ?_) (fun hc => ?_)
  · have hf := oT hc hf
    refine k_iload E hl 1 dL_law_1392 rfl ?_
    refine lv_if_ne (tgt := 1409) E.hx E.hb dL_law_1394 (by decide) (fun hc => ?_) (fun hc => ?_)
    · have hf := oF hc hf
      refine lv_goto (tgt := 2474) E.hx E.hb dL_law_1409 (by decide) ?_
      exact hgo pp_6 sa_0 _ _ _ _ _ (by omega) (by omega) (by cases hf; exact hW) (lv_sub hl [2, 3, 4, 5, 6] rfl)
    · have hf := oT hc hf
      refine k_aload_n E hl 5 dL_law_1397 rfl ?_
      refine lv_iconst (v := (0 : Int32)) E.hx E.hb dL_law_1398 ic_0 ?_
      obtain ⟨hin, hf⟩ := oI hf
      obtain ⟨x_11, ex_11, hf⟩ := oL hf
      refine k_lald E hW 51 rfl hin dL_law_1399 ?_
      refine k_topl ex_11 ?_
      refine k_iload E hl 0 dL_law_1400 rfl ?_
      refine lv_i2l (v := (r_9).toInt64) E.hx E.hb dL_law_1402 rfl ?_
      refine W.lcmp E.hx E.hb dL_law_1403 ?_
      refine lv_if_eq (tgt := 1409) E.hx E.hb dL_law_1404 (by decide) (fun hc => ?_) (fun hc => ?_)
      · have hf := oT hc hf
        refine lv_goto (tgt := 2474) E.hx E.hb dL_law_1409 (by decide) ?_
        exact hgo pp_6 sa_0 _ _ _ _ _ (by omega) (by omega) (by cases hf; exact hW) (lv_sub hl [2, 3, 4, 5, 6] rfl)
      · have hf := oF hc hf
        refine lv_iconst (v := (0 : Int32)) E.hx E.hb dL_law_1407 ic_0 ?_
        exact o0 hf
  · have hf := oF hc hf
    refine lv_iconst (v := (0 : Int32)) E.hx E.hb dL_law_1390 ic_0 ?_
    exact o0 hf
def f_law_28 (n : Nat) (L : Nat) (xs : Nat → Int32) (v4 : Int32) (sv_0 : Value) (p1_0 : OS) (p1in_0 : OS) (p1ou_0 : OS) (p1ru_0 : OS) (p1no_0 : OS) (p1fo_0 : OS) (p1rd_0 : OS) (p1rr_0 : OS) (p1pa_0 : PS) (p2_0 : OS) (p3_0 : Nat → Int64) (so_0 : Option OS) : Option LST :=
  gI L (v4 + (1 : Int32)) (Let (xs (v4 + (1 : Int32)).toNatClampNeg) (fun x_1 : Int32 =>
  gI L (v4 + (2 : Int32)) (Let (xs (v4 + (2 : Int32)).toNatClampNeg) (fun x_2 : Int32 =>
  bnd4 (f_L_giveBack n sv_0 p1_0 p1no_0 p1pa_0 1 p3_0 x_1 x_2) (fun (p1no_3 : OS) (p1pa_4 : PS) (p3_5 : Nat → Int64) (r_6 : Int32) =>
  gI L (v4 + (1 : Int32)) (Let (xs (v4 + (1 : Int32)).toNatClampNeg) (fun x_8 : Int32 =>
  gI L (v4 + (2 : Int32)) (Let (xs (v4 + (2 : Int32)).toNatClampNeg) (fun x_9 : Int32 =>
  bnd2 (f_X9_giveBack n p2_0 x_8 x_9) (fun (p2_10 : OS) (r_11 : Int32) =>
  bnd (f_X9_thrown n p2_10) (fun (r_12 : Int32) =>
  if r_12 = r_6 then (
  if r_6 = 0 then (
  gI 1 (0 : Int32) (Let (p3_5 (0 : Int32).toNatClampNeg) (fun x_13 : Int64 =>
  if (lg_cmp x_13 ((r_11).toInt64)) = 0 then (
  some (p1_0, p1in_0, p1ou_0, p1ru_0, p1no_3, p1fo_0, p1rd_0, p1rr_0, p1pa_4, p2_10, p3_5, so_0)) else (
  none)))) else (
  some (p1_0, p1in_0, p1ou_0, p1ru_0, p1no_3, p1fo_0, p1rd_0, p1rr_0, p1pa_4, p2_10, p3_5, so_0))) else (
  none))))))))))))
set_option maxHeartbeats 4000000 in
set_option maxRecDepth 100000 in
theorem c_law_28 {p : Program} {l : Launch} {e : Env} {s : State} {m : MethodId} {below : List Frame} {meth : Method} {c : Code} {A : Nat → Prop} {Q : State → Prop} {b L : Nat} {xs : Nat → Int32} {k : KT} (n : Nat) (hE : EH k) (hx : XH l k) (hN : CCH k) (E : E0 p s m c cL_law 9 RL k A) (hX : va_X b L xs s s.heap) (hbl : b < s.heap.size) (hbA : ¬ A b) (hA : ∀ q : Nat, s.heap.size ≤ q → A q) (a_p1 : Nat → Nat) (a_p1in : Nat → Nat) (a_p1ou : Nat → Nat) (a_p1ru : Nat → Nat) (a_p1no : Nat → Nat) (a_p1fo : Nat → Nat) (a_p1rd : Nat → Nat) (a_p1rr : Nat → Nat) (a_p1pa : Nat → Nat) (a_p2 : Nat → Nat) (a_p3 : Nat → Nat) (pp_0 : Nat → Nat → Nat) (sa_0 : Nat → Nat) (v4 : Int32) (p1_0 : OS) (p1in_0 : OS) (p1ou_0 : OS) (p1ru_0 : OS) (p1no_0 : OS) (p1fo_0 : OS) (p1rd_0 : OS) (p1rr_0 : OS) (p1pa_0 : PS) (p2_0 : OS) (p3_0 : Nat → Int64) (so_0 : Option OS) (res : LST) (hf : f_law_28 n L xs v4 (svV sa_0 so_0) p1_0 p1in_0 p1ou_0 p1ru_0 p1no_0 p1fo_0 p1rd_0 p1rr_0 p1pa_0 p2_0 p3_0 so_0 = some res)
    (H : Heap) (locs : List Loc) (ls : Array Slot) (c0 s0 : Nat) (hc0 : c0 + 40 ≤ 601024) (hs0 : s0 + 8000 ≤ 7293034) (hW : WD k A s.heap ((List.flatten [wMCo k a_p1 (a_p1in 0) (a_p1ou 0) (a_p1ru 0) (a_p1no 0) (a_p1fo 0) (a_p1rd 0) (a_p1pa 0) (svV sa_0 so_0) p1_0, wBytes k a_p1in 600 p1in_0, wBytes k a_p1ou 1024 p1ou_0, wRules k a_p1ru p1ru_0, wCourt k a_p1no p1no_0, wCourt k a_p1fo p1fo_0, wReader k a_p1rd (a_p1in 0) (a_p1fo 0) (a_p1rr 0) p1rd_0, wRules k a_p1rr p1rr_0, wPast k a_p1pa pp_0 p1pa_0, wModel k a_p2 p2_0, wJArr k a_p3 1 p3_0] ++ savW k sa_0 so_0) ++ poolW k pp_0 p1pa_0.2) H locs) (hl : lv_has ls 9 [(0, .ref b), (1, .ref (a_p1 0)), (2, .ref (a_p2 0)), (3, .ref (a_p3 0)), (4, .int v4)])
    (hgo : ∀ (pp : Nat → Nat → Nat) (sa : Nat → Nat) (H : Heap) (locs : List Loc) (ls : Array Slot) (cells slots : Nat), cells ≤ c0 + 40 → slots ≤ s0 + 8000 → WD k A s.heap ((List.flatten [wMCo k a_p1 (a_p1in 0) (a_p1ou 0) (a_p1ru 0) (a_p1no 0) (a_p1fo 0) (a_p1rd 0) (a_p1pa 0) (svV sa (res.2.2.2.2.2.2.2.2.2.2.2)) (res.1), wBytes k a_p1in 600 (res.2.1), wBytes k a_p1ou 1024 (res.2.2.1), wRules k a_p1ru (res.2.2.2.1), wCourt k a_p1no (res.2.2.2.2.1), wCourt k a_p1fo (res.2.2.2.2.2.1), wReader k a_p1rd (a_p1in 0) (a_p1fo 0) (a_p1rr 0) (res.2.2.2.2.2.2.1), wRules k a_p1rr (res.2.2.2.2.2.2.2.1), wPast k a_p1pa pp (res.2.2.2.2.2.2.2.2.1), wModel k a_p2 (res.2.2.2.2.2.2.2.2.2.1), wJArr k a_p3 1 (res.2.2.2.2.2.2.2.2.2.2.1)] ++ savW k sa (res.2.2.2.2.2.2.2.2.2.2.2)) ++ poolW k pp (res.2.2.2.2.2.2.2.2.1).2) H locs → lv_has ls 9 [(0, .ref b), (1, .ref (a_p1 0)), (2, .ref (a_p2 0)), (3, .ref (a_p3 0)), (4, .int v4)] → W p l e room_1 s m #[Value.ref b] below meth c H locs cells slots Q (F0 m 2474 ls [])) :
    W p l e room_1 s m #[Value.ref b] below meth c H locs c0 s0 Q (F0 m 1412 ls []) := by
  unfold f_law_28 at hf
  refine k_aload_n E hl 1 dL_law_1412 rfl ?_
  refine k_aload_n E hl 0 dL_law_1413 rfl ?_
  refine k_iload E hl 4 dL_law_1414 rfl ?_
  refine lv_iconst (v := (1 : Int32)) E.hx E.hb dL_law_1416 ic_1 ?_
  refine lv_iadd E.hx E.hb dL_law_1417 ?_
  obtain ⟨hin, hf⟩ := oI hf
  obtain ⟨x_1, ex_1, hf⟩ := oL hf
  refine va_sld E.hx E.hb hX hbl hbA hW.2.2 hin dL_law_1418 ?_
  refine k_topi ex_1 ?_
  refine k_aload_n E hl 0 dL_law_1419 rfl ?_
  refine k_iload E hl 4 dL_law_1420 rfl ?_
  refine lv_iconst (v := (2 : Int32)) E.hx E.hb dL_law_1422 ic_2 ?_
  refine lv_iadd E.hx E.hb dL_law_1423 ?_
  obtain ⟨hin, hf⟩ := oI hf
  obtain ⟨x_2, ex_2, hf⟩ := oL hf
  refine va_sld E.hx E.hb hX hbl hbA hW.2.2 hin dL_law_1424 ?_
  refine k_topi ex_2 ?_
  refine k_aload_n E hl 3 dL_law_1425 rfl ?_
  obtain ⟨p1no_3, p1pa_4, p3_5, r_6, hg, hf⟩ := ob4 hf
  refine k_callSXGi (As := [.ref (a_p1 0), .int x_1, .int x_2, .ref (a_p3 0)]) (rest := []) (ws2 := fun u => (List.flatten [wMCo k a_p1 (a_p1in 0) (a_p1ou 0) (a_p1ru 0) (a_p1no 0) (a_p1fo 0) (a_p1rd 0) (a_p1pa 0) (svV sa_0 so_0) p1_0, wBytes k a_p1in 600 p1in_0, wBytes k a_p1ou 1024 p1ou_0, wRules k a_p1ru p1ru_0, wCourt k a_p1no (u.1), wCourt k a_p1fo p1fo_0, wReader k a_p1rd (a_p1in 0) (a_p1fo 0) (a_p1rr 0) p1rd_0, wRules k a_p1rr p1rr_0, wPast k a_p1pa (u.2.2.2) (u.2.1), wModel k a_p2 p2_0, wJArr k a_p3 1 (u.2.2.1)] ++ savW k sa_0 so_0) ++ poolW k (u.2.2.2) (u.2.1).2) (c_L_giveBack n l k hN hx a_p1 a_p1in a_p1ou a_p1ru a_p1no a_p1fo a_p1rd a_p1pa a_p3 pp_0 (svV sa_0 so_0) p1_0 p1no_0 p1pa_0 1 p3_0 x_1 x_2 (p1no_3, p1pa_4, p3_5, r_6) hg) E sw_227 rfl dL_law_1426 rfl (posOf [1, 2, 2, 3, 12, 12, 1, 3, 2, 13, 1] [0, 4, 8, 10]) hW hA hl rfl (law_mapG (ln := [1, 2, 2, 3, 12, 12, 1, 3, 2, 13, 1]) (is := [0, 4, 8, 10]) (cs := [wMCo k a_p1 (a_p1in 0) (a_p1ou 0) (a_p1ru 0) (a_p1no 0) (a_p1fo 0) (a_p1rd 0) (a_p1pa 0) (svV sa_0 so_0) p1_0, wCourt k a_p1no p1no_0, wPast k a_p1pa pp_0 p1pa_0, wJArr k a_p3 1 p3_0]) (fl4 _ _ _ _) rfl (by decide) rfl) ⟨Nat.le_of_ble_eq_true rfl, Nat.le_of_ble_eq_true rfl⟩ ⟨by show _ ≤ 601024; omega, by show _ ≤ 7293034; omega⟩ (Nat.le_of_ble_eq_true rfl) rfl (fun _ => rfl) (fun u => law_putG (ln := [1, 2, 2, 3, 12, 12, 1, 3, 2, 13, 1]) (is := [0, 4, 8, 10]) (cs0 := [wMCo k a_p1 (a_p1in 0) (a_p1ou 0) (a_p1ru 0) (a_p1no 0) (a_p1fo 0) (a_p1rd 0) (a_p1pa 0) (svV sa_0 so_0) p1_0, wCourt k a_p1no p1no_0, wPast k a_p1pa pp_0 p1pa_0, wJArr k a_p3 1 p3_0]) (cs := [wMCo k a_p1 (a_p1in 0) (a_p1ou 0) (a_p1ru 0) (a_p1no 0) (a_p1fo 0) (a_p1rd 0) (a_p1pa 0) (svV sa_0 so_0) p1_0, wCourt k a_p1no (u.1), wPast k a_p1pa (u.2.2.2) (u.2.1), wJArr k a_p3 1 (u.2.2.1)]) (fl4 _ _ _ _) rfl (by decide) rfl rfl) (fun r u H locs hp hW => ?_)
  obtain ⟨u0, u1, u2, pp_7⟩ := u
  try dsimp only at hp
  cases hp
  have hW : WD k A s.heap ((List.flatten [wMCo k a_p1 (a_p1in 0) (a_p1ou 0) (a_p1ru 0) (a_p1no 0) (a_p1fo 0) (a_p1rd 0) (a_p1pa 0) (svV sa_0 so_0) p1_0, wBytes k a_p1in 600 p1in_0, wBytes k a_p1ou 1024 p1ou_0, wRules k a_p1ru p1ru_0, wCourt k a_p1no p1no_3, wCourt k a_p1fo p1fo_0, wReader k a_p1rd (a_p1in 0) (a_p1fo 0) (a_p1rr 0) p1rd_0, wRules k a_p1rr p1rr_0, wPast k a_p1pa pp_7 p1pa_4, wModel k a_p2 p2_0, wJArr k a_p3 1 p3_5] ++ savW k sa_0 so_0) ++ poolW k pp_7 p1pa_4.2) H locs := hW
  refine k_istore (lv' := [(5, .int r_6), (0, .ref b), (1, .ref (a_p1 0)), (2, .ref (a_p2 0)), (3, .ref (a_p3 0)), (4, .int v4)]) E rfl hl dL_law_1429 (by decide) rfl (fun ls hl => ?_)
  refine k_aload_n E hl 3 dL_law_1431 rfl ?_
  refine k_aload_n E hl 1 dL_law_1432 rfl ?_
  refine k_iload E hl 5 dL_law_1433 rfl ?_
  refine lv_iconst (v := (1 : Int32)) E.hx E.hb dL_law_1435 ic_1 ?_
  refine lv_iadd E.hx E.hb dL_law_1436 ?_
  obtain ⟨hin, hf⟩ := oI hf
  obtain ⟨x_8, ex_8, hf⟩ := oL hf
  refine va_sld E.hx E.hb hX hbl hbA hW.2.2 hin dL_law_1437 ?_
  refine k_topi ex_8 ?_
  refine k_aload_n E hl 1 dL_law_1438 rfl ?_
  refine k_iload E hl 5 dL_law_1439 rfl ?_
  refine lv_iconst (v := (2 : Int32)) E.hx E.hb dL_law_1441 ic_2 ?_
  refine lv_iadd E.hx E.hb dL_law_1442 ?_
  obtain ⟨hin, hf⟩ := oI hf
  obtain ⟨x_9, ex_9, hf⟩ := oL hf
  refine va_sld E.hx E.hb hX hbl hbA hW.2.2 hin dL_law_1443 ?_
  refine k_topi ex_9 ?_
  obtain ⟨p2_10, r_11, hg, hf⟩ := ob2 hf
  refine k_callVi (As := [.int x_8, .int x_9]) (rest := []) (ws2 := fun u => (List.flatten [wMCo k a_p1 (a_p1in 0) (a_p1ou 0) (a_p1ru 0) (a_p1no 0) (a_p1fo 0) (a_p1rd 0) (a_p1pa 0) (svV sa_0 so_0) p1_0, wBytes k a_p1in 600 p1in_0, wBytes k a_p1ou 1024 p1ou_0, wRules k a_p1ru p1ru_0, wCourt k a_p1no p1no_3, wCourt k a_p1fo p1fo_0, wReader k a_p1rd (a_p1in 0) (a_p1fo 0) (a_p1rr 0) p1rd_0, wRules k a_p1rr p1rr_0, wPast k a_p1pa pp_7 p1pa_4, wModel k a_p2 (u), wJArr k a_p3 1 p3_5] ++ savW k sa_0 so_0) ++ poolW k pp_7 p1pa_4.2) (c_X9_giveBack n l k a_p2 p2_0 x_8 x_9 (p2_10, r_11) hg) E vl_L_229 dL_law_1444 rfl (posOf [1, 2, 2, 3, 12, 12, 1, 3, 2, 13, 1] [9]) 7 38 hW hA hl rfl (law_map (ln := [1, 2, 2, 3, 12, 12, 1, 3, 2, 13, 1]) (is := [9]) (cs := [wModel k a_p2 p2_0]) (fl1 _) rfl (by decide) rfl) rfl rfl ⟨Nat.le_of_ble_eq_true rfl, Nat.le_of_ble_eq_true rfl⟩ ⟨by show _ ≤ 601024; omega, by show _ ≤ 7293034; omega⟩ (Nat.le_of_ble_eq_true rfl) rfl (fun _ => rfl) (fun u => law_put (ln := [1, 2, 2, 3, 12, 12, 1, 3, 2, 13, 1]) (is := [9]) (cs0 := [wModel k a_p2 p2_0]) (cs := [wModel k a_p2 (u)]) (fl1 _) rfl (by decide) rfl rfl) (fun r u H locs hp hW => ?_)
  cases hp
  have hW : WD k A s.heap ((List.flatten [wMCo k a_p1 (a_p1in 0) (a_p1ou 0) (a_p1ru 0) (a_p1no 0) (a_p1fo 0) (a_p1rd 0) (a_p1pa 0) (svV sa_0 so_0) p1_0, wBytes k a_p1in 600 p1in_0, wBytes k a_p1ou 1024 p1ou_0, wRules k a_p1ru p1ru_0, wCourt k a_p1no p1no_3, wCourt k a_p1fo p1fo_0, wReader k a_p1rd (a_p1in 0) (a_p1fo 0) (a_p1rr 0) p1rd_0, wRules k a_p1rr p1rr_0, wPast k a_p1pa pp_7 p1pa_4, wModel k a_p2 p2_10, wJArr k a_p3 1 p3_5] ++ savW k sa_0 so_0) ++ poolW k pp_7 p1pa_4.2) H locs := hW
  refine k_istore (lv' := [(6, .int r_11), (5, .int r_6), (0, .ref b), (1, .ref (a_p1 0)), (2, .ref (a_p2 0)), (3, .ref (a_p3 0)), (4, .int v4)]) E rfl hl dL_law_1447 (by decide) rfl (fun ls hl => ?_)
  refine k_aload_n E hl 4 dL_law_1449 rfl ?_
  obtain ⟨r_12, hg, hf⟩ := ob hf
  refine k_callVi (As := []) (rest := []) (ws2 := fun u => (List.flatten [wMCo k a_p1 (a_p1in 0) (a_p1ou 0) (a_p1ru 0) (a_p1no 0) (a_p1fo 0) (a_p1rd 0) (a_p1pa 0) (svV sa_0 so_0) p1_0, wBytes k a_p1in 600 p1in_0, wBytes k a_p1ou 1024 p1ou_0, wRules k a_p1ru p1ru_0, wCourt k a_p1no p1no_3, wCourt k a_p1fo p1fo_0, wReader k a_p1rd (a_p1in 0) (a_p1fo 0) (a_p1rr 0) p1rd_0, wRules k a_p1rr p1rr_0, wPast k a_p1pa pp_7 p1pa_4, wModel k a_p2 p2_10, wJArr k a_p3 1 p3_5] ++ savW k sa_0 so_0) ++ poolW k pp_7 p1pa_4.2) (c_X9_thrown n l k a_p2 p2_10 r_12 hg) E vl_L_152 dL_law_1450 rfl (posOf [1, 2, 2, 3, 12, 12, 1, 3, 2, 13, 1] [9]) 7 38 hW hA hl rfl (law_map (ln := [1, 2, 2, 3, 12, 12, 1, 3, 2, 13, 1]) (is := [9]) (cs := [wModel k a_p2 p2_10]) (fl1 _) rfl (by decide) rfl) rfl rfl ⟨Nat.le_of_ble_eq_true rfl, Nat.le_of_ble_eq_true rfl⟩ ⟨by show _ ≤ 601024; omega, by show _ ≤ 7293034; omega⟩ (Nat.le_of_ble_eq_true rfl) rfl (fun _ => rfl) (fun u => law_put (ln := [1, 2, 2, 3, 12, 12, 1, 3, 2, 13, 1]) (is := [9]) (cs0 := [wModel k a_p2 p2_10]) (cs := [wModel k a_p2 p2_10]) (fl1 _) rfl (by decide) rfl rfl) (fun r u H locs hp hW => ?_)
  cases hp
  have hW : WD k A s.heap ((List.flatten [wMCo k a_p1 (a_p1in 0) (a_p1ou 0) (a_p1ru 0) (a_p1no 0) (a_p1fo 0) (a_p1rd 0) (a_p1pa 0) (svV sa_0 so_0) p1_0, wBytes k a_p1in 600 p1in_0, wBytes k a_p1ou 1024 p1ou_0, wRules k a_p1ru p1ru_0, wCourt k a_p1no p1no_3, wCourt k a_p1fo p1fo_0, wReader k a_p1rd (a_p1in 0) (a_p1fo 0) (a_p1rr 0) p1rd_0, wRules k a_p1rr p1rr_0, wPast k a_p1pa pp_7 p1pa_4, wModel k a_p2 p2_10, wJArr k a_p3 1 p3_5] ++ savW k sa_0 so_0) ++ poolW k pp_7 p1pa_4.2) H locs := hW
  refine k_iload E hl 1 dL_law_1453 rfl ?_
  refine lv_icmp_eq (tgt := 1460) E.hx E.hb dL_law_1455 (by decide) (fun hc => ?_) (fun hc => ?_)
  · have hf := oT hc hf
    refine k_iload E hl 1 dL_law_1460 rfl ?_
    refine lv_if_ne (tgt := 1477) E.hx E.hb dL_law_1462 (by decide) (fun hc => ?_) (fun hc => ?_)
    · have hf := oF hc hf
      refine lv_goto (tgt := 2474) E.hx E.hb dL_law_1477 (by decide) ?_
      exact hgo pp_7 sa_0 _ _ _ _ _ (by omega) (by omega) (by cases hf; exact hW) (lv_sub hl [2, 3, 4, 5, 6] rfl)
    · have hf := oT hc hf
      refine k_aload_n E hl 5 dL_law_1465 rfl ?_
      refine lv_iconst (v := (0 : Int32)) E.hx E.hb dL_law_1466 ic_0 ?_
      obtain ⟨hin, hf⟩ := oI hf
      obtain ⟨x_13, ex_13, hf⟩ := oL hf
      refine k_lald E hW 51 rfl hin dL_law_1467 ?_
      refine k_topl ex_13 ?_
      refine k_iload E hl 0 dL_law_1468 rfl ?_
      refine lv_i2l (v := (r_11).toInt64) E.hx E.hb dL_law_1470 rfl ?_
      refine W.lcmp E.hx E.hb dL_law_1471 ?_
      refine lv_if_eq (tgt := 1477) E.hx E.hb dL_law_1472 (by decide) (fun hc => ?_) (fun hc => ?_)
      · have hf := oT hc hf
        refine lv_goto (tgt := 2474) E.hx E.hb dL_law_1477 (by decide) ?_
        exact hgo pp_7 sa_0 _ _ _ _ _ (by omega) (by omega) (by cases hf; exact hW) (lv_sub hl [2, 3, 4, 5, 6] rfl)
      · have hf := oF hc hf
        refine lv_iconst (v := (0 : Int32)) E.hx E.hb dL_law_1475 ic_0 ?_
        exact o0 hf
  · have hf := oF hc hf
    refine lv_iconst (v := (0 : Int32)) E.hx E.hb dL_law_1458 ic_0 ?_
    exact o0 hf
def f_law_29 (n : Nat) (L : Nat) (xs : Nat → Int32) (v4 : Int32) (sv_0 : Value) (p1_0 : OS) (p1in_0 : OS) (p1ou_0 : OS) (p1ru_0 : OS) (p1no_0 : OS) (p1fo_0 : OS) (p1rd_0 : OS) (p1rr_0 : OS) (p1pa_0 : PS) (p2_0 : OS) (p3_0 : Nat → Int64) (so_0 : Option OS) : Option LST :=
  gI L (v4 + (1 : Int32)) (Let (xs (v4 + (1 : Int32)).toNatClampNeg) (fun x_1 : Int32 =>
  gI L (v4 + (2 : Int32)) (Let (xs (v4 + (2 : Int32)).toNatClampNeg) (fun x_2 : Int32 =>
  bnd4 (f_L_renew n sv_0 p1_0 p1no_0 p1pa_0 1 p3_0 x_1 x_2) (fun (p1no_3 : OS) (p1pa_4 : PS) (p3_5 : Nat → Int64) (r_6 : Int32) =>
  gI L (v4 + (1 : Int32)) (Let (xs (v4 + (1 : Int32)).toNatClampNeg) (fun x_8 : Int32 =>
  gI L (v4 + (2 : Int32)) (Let (xs (v4 + (2 : Int32)).toNatClampNeg) (fun x_9 : Int32 =>
  bnd2 (f_X9_renew n p2_0 x_8 x_9) (fun (p2_10 : OS) (r_11 : Int32) =>
  bnd (f_X9_thrown n p2_10) (fun (r_12 : Int32) =>
  if r_12 = r_6 then (
  if r_6 = 0 then (
  gI 1 (0 : Int32) (Let (p3_5 (0 : Int32).toNatClampNeg) (fun x_13 : Int64 =>
  if (lg_cmp x_13 ((r_11).toInt64)) = 0 then (
  some (p1_0, p1in_0, p1ou_0, p1ru_0, p1no_3, p1fo_0, p1rd_0, p1rr_0, p1pa_4, p2_10, p3_5, so_0)) else (
  none)))) else (
  some (p1_0, p1in_0, p1ou_0, p1ru_0, p1no_3, p1fo_0, p1rd_0, p1rr_0, p1pa_4, p2_10, p3_5, so_0))) else (
  none))))))))))))
set_option maxHeartbeats 4000000 in
set_option maxRecDepth 100000 in
theorem c_law_29 {p : Program} {l : Launch} {e : Env} {s : State} {m : MethodId} {below : List Frame} {meth : Method} {c : Code} {A : Nat → Prop} {Q : State → Prop} {b L : Nat} {xs : Nat → Int32} {k : KT} (n : Nat) (hE : EH k) (hx : XH l k) (hN : CCH k) (E : E0 p s m c cL_law 9 RL k A) (hX : va_X b L xs s s.heap) (hbl : b < s.heap.size) (hbA : ¬ A b) (hA : ∀ q : Nat, s.heap.size ≤ q → A q) (a_p1 : Nat → Nat) (a_p1in : Nat → Nat) (a_p1ou : Nat → Nat) (a_p1ru : Nat → Nat) (a_p1no : Nat → Nat) (a_p1fo : Nat → Nat) (a_p1rd : Nat → Nat) (a_p1rr : Nat → Nat) (a_p1pa : Nat → Nat) (a_p2 : Nat → Nat) (a_p3 : Nat → Nat) (pp_0 : Nat → Nat → Nat) (sa_0 : Nat → Nat) (v4 : Int32) (p1_0 : OS) (p1in_0 : OS) (p1ou_0 : OS) (p1ru_0 : OS) (p1no_0 : OS) (p1fo_0 : OS) (p1rd_0 : OS) (p1rr_0 : OS) (p1pa_0 : PS) (p2_0 : OS) (p3_0 : Nat → Int64) (so_0 : Option OS) (res : LST) (hf : f_law_29 n L xs v4 (svV sa_0 so_0) p1_0 p1in_0 p1ou_0 p1ru_0 p1no_0 p1fo_0 p1rd_0 p1rr_0 p1pa_0 p2_0 p3_0 so_0 = some res)
    (H : Heap) (locs : List Loc) (ls : Array Slot) (c0 s0 : Nat) (hc0 : c0 + 40 ≤ 601024) (hs0 : s0 + 8000 ≤ 7293034) (hW : WD k A s.heap ((List.flatten [wMCo k a_p1 (a_p1in 0) (a_p1ou 0) (a_p1ru 0) (a_p1no 0) (a_p1fo 0) (a_p1rd 0) (a_p1pa 0) (svV sa_0 so_0) p1_0, wBytes k a_p1in 600 p1in_0, wBytes k a_p1ou 1024 p1ou_0, wRules k a_p1ru p1ru_0, wCourt k a_p1no p1no_0, wCourt k a_p1fo p1fo_0, wReader k a_p1rd (a_p1in 0) (a_p1fo 0) (a_p1rr 0) p1rd_0, wRules k a_p1rr p1rr_0, wPast k a_p1pa pp_0 p1pa_0, wModel k a_p2 p2_0, wJArr k a_p3 1 p3_0] ++ savW k sa_0 so_0) ++ poolW k pp_0 p1pa_0.2) H locs) (hl : lv_has ls 9 [(0, .ref b), (1, .ref (a_p1 0)), (2, .ref (a_p2 0)), (3, .ref (a_p3 0)), (4, .int v4)])
    (hgo : ∀ (pp : Nat → Nat → Nat) (sa : Nat → Nat) (H : Heap) (locs : List Loc) (ls : Array Slot) (cells slots : Nat), cells ≤ c0 + 40 → slots ≤ s0 + 8000 → WD k A s.heap ((List.flatten [wMCo k a_p1 (a_p1in 0) (a_p1ou 0) (a_p1ru 0) (a_p1no 0) (a_p1fo 0) (a_p1rd 0) (a_p1pa 0) (svV sa (res.2.2.2.2.2.2.2.2.2.2.2)) (res.1), wBytes k a_p1in 600 (res.2.1), wBytes k a_p1ou 1024 (res.2.2.1), wRules k a_p1ru (res.2.2.2.1), wCourt k a_p1no (res.2.2.2.2.1), wCourt k a_p1fo (res.2.2.2.2.2.1), wReader k a_p1rd (a_p1in 0) (a_p1fo 0) (a_p1rr 0) (res.2.2.2.2.2.2.1), wRules k a_p1rr (res.2.2.2.2.2.2.2.1), wPast k a_p1pa pp (res.2.2.2.2.2.2.2.2.1), wModel k a_p2 (res.2.2.2.2.2.2.2.2.2.1), wJArr k a_p3 1 (res.2.2.2.2.2.2.2.2.2.2.1)] ++ savW k sa (res.2.2.2.2.2.2.2.2.2.2.2)) ++ poolW k pp (res.2.2.2.2.2.2.2.2.1).2) H locs → lv_has ls 9 [(0, .ref b), (1, .ref (a_p1 0)), (2, .ref (a_p2 0)), (3, .ref (a_p3 0)), (4, .int v4)] → W p l e room_1 s m #[Value.ref b] below meth c H locs cells slots Q (F0 m 2474 ls [])) :
    W p l e room_1 s m #[Value.ref b] below meth c H locs c0 s0 Q (F0 m 1480 ls []) := by
  unfold f_law_29 at hf
  refine k_aload_n E hl 1 dL_law_1480 rfl ?_
  refine k_aload_n E hl 0 dL_law_1481 rfl ?_
  refine k_iload E hl 4 dL_law_1482 rfl ?_
  refine lv_iconst (v := (1 : Int32)) E.hx E.hb dL_law_1484 ic_1 ?_
  refine lv_iadd E.hx E.hb dL_law_1485 ?_
  obtain ⟨hin, hf⟩ := oI hf
  obtain ⟨x_1, ex_1, hf⟩ := oL hf
  refine va_sld E.hx E.hb hX hbl hbA hW.2.2 hin dL_law_1486 ?_
  refine k_topi ex_1 ?_
  refine k_aload_n E hl 0 dL_law_1487 rfl ?_
  refine k_iload E hl 4 dL_law_1488 rfl ?_
  refine lv_iconst (v := (2 : Int32)) E.hx E.hb dL_law_1490 ic_2 ?_
  refine lv_iadd E.hx E.hb dL_law_1491 ?_
  obtain ⟨hin, hf⟩ := oI hf
  obtain ⟨x_2, ex_2, hf⟩ := oL hf
  refine va_sld E.hx E.hb hX hbl hbA hW.2.2 hin dL_law_1492 ?_
  refine k_topi ex_2 ?_
  refine k_aload_n E hl 3 dL_law_1493 rfl ?_
  obtain ⟨p1no_3, p1pa_4, p3_5, r_6, hg, hf⟩ := ob4 hf
  refine k_callSXGi (As := [.ref (a_p1 0), .int x_1, .int x_2, .ref (a_p3 0)]) (rest := []) (ws2 := fun u => (List.flatten [wMCo k a_p1 (a_p1in 0) (a_p1ou 0) (a_p1ru 0) (a_p1no 0) (a_p1fo 0) (a_p1rd 0) (a_p1pa 0) (svV sa_0 so_0) p1_0, wBytes k a_p1in 600 p1in_0, wBytes k a_p1ou 1024 p1ou_0, wRules k a_p1ru p1ru_0, wCourt k a_p1no (u.1), wCourt k a_p1fo p1fo_0, wReader k a_p1rd (a_p1in 0) (a_p1fo 0) (a_p1rr 0) p1rd_0, wRules k a_p1rr p1rr_0, wPast k a_p1pa (u.2.2.2) (u.2.1), wModel k a_p2 p2_0, wJArr k a_p3 1 (u.2.2.1)] ++ savW k sa_0 so_0) ++ poolW k (u.2.2.2) (u.2.1).2) (c_L_renew n l k hN hx a_p1 a_p1in a_p1ou a_p1ru a_p1no a_p1fo a_p1rd a_p1pa a_p3 pp_0 (svV sa_0 so_0) p1_0 p1no_0 p1pa_0 1 p3_0 x_1 x_2 (p1no_3, p1pa_4, p3_5, r_6) hg) E sw_230 rfl dL_law_1494 rfl (posOf [1, 2, 2, 3, 12, 12, 1, 3, 2, 13, 1] [0, 4, 8, 10]) hW hA hl rfl (law_mapG (ln := [1, 2, 2, 3, 12, 12, 1, 3, 2, 13, 1]) (is := [0, 4, 8, 10]) (cs := [wMCo k a_p1 (a_p1in 0) (a_p1ou 0) (a_p1ru 0) (a_p1no 0) (a_p1fo 0) (a_p1rd 0) (a_p1pa 0) (svV sa_0 so_0) p1_0, wCourt k a_p1no p1no_0, wPast k a_p1pa pp_0 p1pa_0, wJArr k a_p3 1 p3_0]) (fl4 _ _ _ _) rfl (by decide) rfl) ⟨Nat.le_of_ble_eq_true rfl, Nat.le_of_ble_eq_true rfl⟩ ⟨by show _ ≤ 601024; omega, by show _ ≤ 7293034; omega⟩ (Nat.le_of_ble_eq_true rfl) rfl (fun _ => rfl) (fun u => law_putG (ln := [1, 2, 2, 3, 12, 12, 1, 3, 2, 13, 1]) (is := [0, 4, 8, 10]) (cs0 := [wMCo k a_p1 (a_p1in 0) (a_p1ou 0) (a_p1ru 0) (a_p1no 0) (a_p1fo 0) (a_p1rd 0) (a_p1pa 0) (svV sa_0 so_0) p1_0, wCourt k a_p1no p1no_0, wPast k a_p1pa pp_0 p1pa_0, wJArr k a_p3 1 p3_0]) (cs := [wMCo k a_p1 (a_p1in 0) (a_p1ou 0) (a_p1ru 0) (a_p1no 0) (a_p1fo 0) (a_p1rd 0) (a_p1pa 0) (svV sa_0 so_0) p1_0, wCourt k a_p1no (u.1), wPast k a_p1pa (u.2.2.2) (u.2.1), wJArr k a_p3 1 (u.2.2.1)]) (fl4 _ _ _ _) rfl (by decide) rfl rfl) (fun r u H locs hp hW => ?_)
  obtain ⟨u0, u1, u2, pp_7⟩ := u
  try dsimp only at hp
  cases hp
  have hW : WD k A s.heap ((List.flatten [wMCo k a_p1 (a_p1in 0) (a_p1ou 0) (a_p1ru 0) (a_p1no 0) (a_p1fo 0) (a_p1rd 0) (a_p1pa 0) (svV sa_0 so_0) p1_0, wBytes k a_p1in 600 p1in_0, wBytes k a_p1ou 1024 p1ou_0, wRules k a_p1ru p1ru_0, wCourt k a_p1no p1no_3, wCourt k a_p1fo p1fo_0, wReader k a_p1rd (a_p1in 0) (a_p1fo 0) (a_p1rr 0) p1rd_0, wRules k a_p1rr p1rr_0, wPast k a_p1pa pp_7 p1pa_4, wModel k a_p2 p2_0, wJArr k a_p3 1 p3_5] ++ savW k sa_0 so_0) ++ poolW k pp_7 p1pa_4.2) H locs := hW
  refine k_istore (lv' := [(5, .int r_6), (0, .ref b), (1, .ref (a_p1 0)), (2, .ref (a_p2 0)), (3, .ref (a_p3 0)), (4, .int v4)]) E rfl hl dL_law_1497 (by decide) rfl (fun ls hl => ?_)
  refine k_aload_n E hl 3 dL_law_1499 rfl ?_
  refine k_aload_n E hl 1 dL_law_1500 rfl ?_
  refine k_iload E hl 5 dL_law_1501 rfl ?_
  refine lv_iconst (v := (1 : Int32)) E.hx E.hb dL_law_1503 ic_1 ?_
  refine lv_iadd E.hx E.hb dL_law_1504 ?_
  obtain ⟨hin, hf⟩ := oI hf
  obtain ⟨x_8, ex_8, hf⟩ := oL hf
  refine va_sld E.hx E.hb hX hbl hbA hW.2.2 hin dL_law_1505 ?_
  refine k_topi ex_8 ?_
  refine k_aload_n E hl 1 dL_law_1506 rfl ?_
  refine k_iload E hl 5 dL_law_1507 rfl ?_
  refine lv_iconst (v := (2 : Int32)) E.hx E.hb dL_law_1509 ic_2 ?_
  refine lv_iadd E.hx E.hb dL_law_1510 ?_
  obtain ⟨hin, hf⟩ := oI hf
  obtain ⟨x_9, ex_9, hf⟩ := oL hf
  refine va_sld E.hx E.hb hX hbl hbA hW.2.2 hin dL_law_1511 ?_
  refine k_topi ex_9 ?_
  obtain ⟨p2_10, r_11, hg, hf⟩ := ob2 hf
  refine k_callVi (As := [.int x_8, .int x_9]) (rest := []) (ws2 := fun u => (List.flatten [wMCo k a_p1 (a_p1in 0) (a_p1ou 0) (a_p1ru 0) (a_p1no 0) (a_p1fo 0) (a_p1rd 0) (a_p1pa 0) (svV sa_0 so_0) p1_0, wBytes k a_p1in 600 p1in_0, wBytes k a_p1ou 1024 p1ou_0, wRules k a_p1ru p1ru_0, wCourt k a_p1no p1no_3, wCourt k a_p1fo p1fo_0, wReader k a_p1rd (a_p1in 0) (a_p1fo 0) (a_p1rr 0) p1rd_0, wRules k a_p1rr p1rr_0, wPast k a_p1pa pp_7 p1pa_4, wModel k a_p2 (u), wJArr k a_p3 1 p3_5] ++ savW k sa_0 so_0) ++ poolW k pp_7 p1pa_4.2) (c_X9_renew n l k a_p2 p2_0 x_8 x_9 (p2_10, r_11) hg) E vl_L_232 dL_law_1512 rfl (posOf [1, 2, 2, 3, 12, 12, 1, 3, 2, 13, 1] [9]) 7 38 hW hA hl rfl (law_map (ln := [1, 2, 2, 3, 12, 12, 1, 3, 2, 13, 1]) (is := [9]) (cs := [wModel k a_p2 p2_0]) (fl1 _) rfl (by decide) rfl) rfl rfl ⟨Nat.le_of_ble_eq_true rfl, Nat.le_of_ble_eq_true rfl⟩ ⟨by show _ ≤ 601024; omega, by show _ ≤ 7293034; omega⟩ (Nat.le_of_ble_eq_true rfl) rfl (fun _ => rfl) (fun u => law_put (ln := [1, 2, 2, 3, 12, 12, 1, 3, 2, 13, 1]) (is := [9]) (cs0 := [wModel k a_p2 p2_0]) (cs := [wModel k a_p2 (u)]) (fl1 _) rfl (by decide) rfl rfl) (fun r u H locs hp hW => ?_)
  cases hp
  have hW : WD k A s.heap ((List.flatten [wMCo k a_p1 (a_p1in 0) (a_p1ou 0) (a_p1ru 0) (a_p1no 0) (a_p1fo 0) (a_p1rd 0) (a_p1pa 0) (svV sa_0 so_0) p1_0, wBytes k a_p1in 600 p1in_0, wBytes k a_p1ou 1024 p1ou_0, wRules k a_p1ru p1ru_0, wCourt k a_p1no p1no_3, wCourt k a_p1fo p1fo_0, wReader k a_p1rd (a_p1in 0) (a_p1fo 0) (a_p1rr 0) p1rd_0, wRules k a_p1rr p1rr_0, wPast k a_p1pa pp_7 p1pa_4, wModel k a_p2 p2_10, wJArr k a_p3 1 p3_5] ++ savW k sa_0 so_0) ++ poolW k pp_7 p1pa_4.2) H locs := hW
  refine k_istore (lv' := [(6, .int r_11), (5, .int r_6), (0, .ref b), (1, .ref (a_p1 0)), (2, .ref (a_p2 0)), (3, .ref (a_p3 0)), (4, .int v4)]) E rfl hl dL_law_1515 (by decide) rfl (fun ls hl => ?_)
  refine k_aload_n E hl 4 dL_law_1517 rfl ?_
  obtain ⟨r_12, hg, hf⟩ := ob hf
  refine k_callVi (As := []) (rest := []) (ws2 := fun u => (List.flatten [wMCo k a_p1 (a_p1in 0) (a_p1ou 0) (a_p1ru 0) (a_p1no 0) (a_p1fo 0) (a_p1rd 0) (a_p1pa 0) (svV sa_0 so_0) p1_0, wBytes k a_p1in 600 p1in_0, wBytes k a_p1ou 1024 p1ou_0, wRules k a_p1ru p1ru_0, wCourt k a_p1no p1no_3, wCourt k a_p1fo p1fo_0, wReader k a_p1rd (a_p1in 0) (a_p1fo 0) (a_p1rr 0) p1rd_0, wRules k a_p1rr p1rr_0, wPast k a_p1pa pp_7 p1pa_4, wModel k a_p2 p2_10, wJArr k a_p3 1 p3_5] ++ savW k sa_0 so_0) ++ poolW k pp_7 p1pa_4.2) (c_X9_thrown n l k a_p2 p2_10 r_12 hg) E vl_L_152 dL_law_1518 rfl (posOf [1, 2, 2, 3, 12, 12, 1, 3, 2, 13, 1] [9]) 7 38 hW hA hl rfl (law_map (ln := [1, 2, 2, 3, 12, 12, 1, 3, 2, 13, 1]) (is := [9]) (cs := [wModel k a_p2 p2_10]) (fl1 _) rfl (by decide) rfl) rfl rfl ⟨Nat.le_of_ble_eq_true rfl, Nat.le_of_ble_eq_true rfl⟩ ⟨by show _ ≤ 601024; omega, by show _ ≤ 7293034; omega⟩ (Nat.le_of_ble_eq_true rfl) rfl (fun _ => rfl) (fun u => law_put (ln := [1, 2, 2, 3, 12, 12, 1, 3, 2, 13, 1]) (is := [9]) (cs0 := [wModel k a_p2 p2_10]) (cs := [wModel k a_p2 p2_10]) (fl1 _) rfl (by decide) rfl rfl) (fun r u H locs hp hW => ?_)
  cases hp
  have hW : WD k A s.heap ((List.flatten [wMCo k a_p1 (a_p1in 0) (a_p1ou 0) (a_p1ru 0) (a_p1no 0) (a_p1fo 0) (a_p1rd 0) (a_p1pa 0) (svV sa_0 so_0) p1_0, wBytes k a_p1in 600 p1in_0, wBytes k a_p1ou 1024 p1ou_0, wRules k a_p1ru p1ru_0, wCourt k a_p1no p1no_3, wCourt k a_p1fo p1fo_0, wReader k a_p1rd (a_p1in 0) (a_p1fo 0) (a_p1rr 0) p1rd_0, wRules k a_p1rr p1rr_0, wPast k a_p1pa pp_7 p1pa_4, wModel k a_p2 p2_10, wJArr k a_p3 1 p3_5] ++ savW k sa_0 so_0) ++ poolW k pp_7 p1pa_4.2) H locs := hW
  refine k_iload E hl 1 dL_law_1521 rfl ?_
  refine lv_icmp_eq (tgt := 1528) E.hx E.hb dL_law_1523 (by decide) (fun hc => ?_) (fun hc => ?_)
  · have hf := oT hc hf
    refine k_iload E hl 1 dL_law_1528 rfl ?_
    refine lv_if_ne (tgt := 1545) E.hx E.hb dL_law_1530 (by decide) (fun hc => ?_) (fun hc => ?_)
    · have hf := oF hc hf
      refine lv_goto (tgt := 2474) E.hx E.hb dL_law_1545 (by decide) ?_
      exact hgo pp_7 sa_0 _ _ _ _ _ (by omega) (by omega) (by cases hf; exact hW) (lv_sub hl [2, 3, 4, 5, 6] rfl)
    · have hf := oT hc hf
      refine k_aload_n E hl 5 dL_law_1533 rfl ?_
      refine lv_iconst (v := (0 : Int32)) E.hx E.hb dL_law_1534 ic_0 ?_
      obtain ⟨hin, hf⟩ := oI hf
      obtain ⟨x_13, ex_13, hf⟩ := oL hf
      refine k_lald E hW 51 rfl hin dL_law_1535 ?_
      refine k_topl ex_13 ?_
      refine k_iload E hl 0 dL_law_1536 rfl ?_
      refine lv_i2l (v := (r_11).toInt64) E.hx E.hb dL_law_1538 rfl ?_
      refine W.lcmp E.hx E.hb dL_law_1539 ?_
      refine lv_if_eq (tgt := 1545) E.hx E.hb dL_law_1540 (by decide) (fun hc => ?_) (fun hc => ?_)
      · have hf := oT hc hf
        refine lv_goto (tgt := 2474) E.hx E.hb dL_law_1545 (by decide) ?_
        exact hgo pp_7 sa_0 _ _ _ _ _ (by omega) (by omega) (by cases hf; exact hW) (lv_sub hl [2, 3, 4, 5, 6] rfl)
      · have hf := oF hc hf
        refine lv_iconst (v := (0 : Int32)) E.hx E.hb dL_law_1543 ic_0 ?_
        exact o0 hf
  · have hf := oF hc hf
    refine lv_iconst (v := (0 : Int32)) E.hx E.hb dL_law_1526 ic_0 ?_
    exact o0 hf
def f_law_30 (n : Nat) (L : Nat) (xs : Nat → Int32) (v4 : Int32) (sv_0 : Value) (p1_0 : OS) (p1in_0 : OS) (p1ou_0 : OS) (p1ru_0 : OS) (p1no_0 : OS) (p1fo_0 : OS) (p1rd_0 : OS) (p1rr_0 : OS) (p1pa_0 : PS) (p2_0 : OS) (p3_0 : Nat → Int64) (so_0 : Option OS) : Option LST :=
  gI L (v4 + (1 : Int32)) (Let (xs (v4 + (1 : Int32)).toNatClampNeg) (fun x_1 : Int32 =>
  gI L (v4 + (2 : Int32)) (Let (xs (v4 + (2 : Int32)).toNatClampNeg) (fun x_2 : Int32 =>
  bnd4 (f_L_stall n sv_0 p1_0 p1ru_0 p1no_0 p1pa_0 1 p3_0 x_1 x_2) (fun (p1no_3 : OS) (p1pa_4 : PS) (p3_5 : Nat → Int64) (r_6 : Int32) =>
  gI L (v4 + (1 : Int32)) (Let (xs (v4 + (1 : Int32)).toNatClampNeg) (fun x_8 : Int32 =>
  gI L (v4 + (2 : Int32)) (Let (xs (v4 + (2 : Int32)).toNatClampNeg) (fun x_9 : Int32 =>
  bnd2 (f_X9_stall n p2_0 x_8 x_9) (fun (p2_10 : OS) (r_11 : Int32) =>
  bnd (f_X9_thrown n p2_10) (fun (r_12 : Int32) =>
  if r_12 = r_6 then (
  if r_6 = 0 then (
  gI 1 (0 : Int32) (Let (p3_5 (0 : Int32).toNatClampNeg) (fun x_13 : Int64 =>
  if (lg_cmp x_13 ((r_11).toInt64)) = 0 then (
  some (p1_0, p1in_0, p1ou_0, p1ru_0, p1no_3, p1fo_0, p1rd_0, p1rr_0, p1pa_4, p2_10, p3_5, so_0)) else (
  none)))) else (
  some (p1_0, p1in_0, p1ou_0, p1ru_0, p1no_3, p1fo_0, p1rd_0, p1rr_0, p1pa_4, p2_10, p3_5, so_0))) else (
  none))))))))))))
set_option maxHeartbeats 4000000 in
set_option maxRecDepth 100000 in
theorem c_law_30 {p : Program} {l : Launch} {e : Env} {s : State} {m : MethodId} {below : List Frame} {meth : Method} {c : Code} {A : Nat → Prop} {Q : State → Prop} {b L : Nat} {xs : Nat → Int32} {k : KT} (n : Nat) (hE : EH k) (hx : XH l k) (hN : CCH k) (E : E0 p s m c cL_law 9 RL k A) (hX : va_X b L xs s s.heap) (hbl : b < s.heap.size) (hbA : ¬ A b) (hA : ∀ q : Nat, s.heap.size ≤ q → A q) (a_p1 : Nat → Nat) (a_p1in : Nat → Nat) (a_p1ou : Nat → Nat) (a_p1ru : Nat → Nat) (a_p1no : Nat → Nat) (a_p1fo : Nat → Nat) (a_p1rd : Nat → Nat) (a_p1rr : Nat → Nat) (a_p1pa : Nat → Nat) (a_p2 : Nat → Nat) (a_p3 : Nat → Nat) (pp_0 : Nat → Nat → Nat) (sa_0 : Nat → Nat) (v4 : Int32) (p1_0 : OS) (p1in_0 : OS) (p1ou_0 : OS) (p1ru_0 : OS) (p1no_0 : OS) (p1fo_0 : OS) (p1rd_0 : OS) (p1rr_0 : OS) (p1pa_0 : PS) (p2_0 : OS) (p3_0 : Nat → Int64) (so_0 : Option OS) (res : LST) (hf : f_law_30 n L xs v4 (svV sa_0 so_0) p1_0 p1in_0 p1ou_0 p1ru_0 p1no_0 p1fo_0 p1rd_0 p1rr_0 p1pa_0 p2_0 p3_0 so_0 = some res)
    (H : Heap) (locs : List Loc) (ls : Array Slot) (c0 s0 : Nat) (hc0 : c0 + 40 ≤ 601024) (hs0 : s0 + 8000 ≤ 7293034) (hW : WD k A s.heap ((List.flatten [wMCo k a_p1 (a_p1in 0) (a_p1ou 0) (a_p1ru 0) (a_p1no 0) (a_p1fo 0) (a_p1rd 0) (a_p1pa 0) (svV sa_0 so_0) p1_0, wBytes k a_p1in 600 p1in_0, wBytes k a_p1ou 1024 p1ou_0, wRules k a_p1ru p1ru_0, wCourt k a_p1no p1no_0, wCourt k a_p1fo p1fo_0, wReader k a_p1rd (a_p1in 0) (a_p1fo 0) (a_p1rr 0) p1rd_0, wRules k a_p1rr p1rr_0, wPast k a_p1pa pp_0 p1pa_0, wModel k a_p2 p2_0, wJArr k a_p3 1 p3_0] ++ savW k sa_0 so_0) ++ poolW k pp_0 p1pa_0.2) H locs) (hl : lv_has ls 9 [(0, .ref b), (1, .ref (a_p1 0)), (2, .ref (a_p2 0)), (3, .ref (a_p3 0)), (4, .int v4)])
    (hgo : ∀ (pp : Nat → Nat → Nat) (sa : Nat → Nat) (H : Heap) (locs : List Loc) (ls : Array Slot) (cells slots : Nat), cells ≤ c0 + 40 → slots ≤ s0 + 8000 → WD k A s.heap ((List.flatten [wMCo k a_p1 (a_p1in 0) (a_p1ou 0) (a_p1ru 0) (a_p1no 0) (a_p1fo 0) (a_p1rd 0) (a_p1pa 0) (svV sa (res.2.2.2.2.2.2.2.2.2.2.2)) (res.1), wBytes k a_p1in 600 (res.2.1), wBytes k a_p1ou 1024 (res.2.2.1), wRules k a_p1ru (res.2.2.2.1), wCourt k a_p1no (res.2.2.2.2.1), wCourt k a_p1fo (res.2.2.2.2.2.1), wReader k a_p1rd (a_p1in 0) (a_p1fo 0) (a_p1rr 0) (res.2.2.2.2.2.2.1), wRules k a_p1rr (res.2.2.2.2.2.2.2.1), wPast k a_p1pa pp (res.2.2.2.2.2.2.2.2.1), wModel k a_p2 (res.2.2.2.2.2.2.2.2.2.1), wJArr k a_p3 1 (res.2.2.2.2.2.2.2.2.2.2.1)] ++ savW k sa (res.2.2.2.2.2.2.2.2.2.2.2)) ++ poolW k pp (res.2.2.2.2.2.2.2.2.1).2) H locs → lv_has ls 9 [(0, .ref b), (1, .ref (a_p1 0)), (2, .ref (a_p2 0)), (3, .ref (a_p3 0)), (4, .int v4)] → W p l e room_1 s m #[Value.ref b] below meth c H locs cells slots Q (F0 m 2474 ls [])) :
    W p l e room_1 s m #[Value.ref b] below meth c H locs c0 s0 Q (F0 m 1548 ls []) := by
  unfold f_law_30 at hf
  refine k_aload_n E hl 1 dL_law_1548 rfl ?_
  refine k_aload_n E hl 0 dL_law_1549 rfl ?_
  refine k_iload E hl 4 dL_law_1550 rfl ?_
  refine lv_iconst (v := (1 : Int32)) E.hx E.hb dL_law_1552 ic_1 ?_
  refine lv_iadd E.hx E.hb dL_law_1553 ?_
  obtain ⟨hin, hf⟩ := oI hf
  obtain ⟨x_1, ex_1, hf⟩ := oL hf
  refine va_sld E.hx E.hb hX hbl hbA hW.2.2 hin dL_law_1554 ?_
  refine k_topi ex_1 ?_
  refine k_aload_n E hl 0 dL_law_1555 rfl ?_
  refine k_iload E hl 4 dL_law_1556 rfl ?_
  refine lv_iconst (v := (2 : Int32)) E.hx E.hb dL_law_1558 ic_2 ?_
  refine lv_iadd E.hx E.hb dL_law_1559 ?_
  obtain ⟨hin, hf⟩ := oI hf
  obtain ⟨x_2, ex_2, hf⟩ := oL hf
  refine va_sld E.hx E.hb hX hbl hbA hW.2.2 hin dL_law_1560 ?_
  refine k_topi ex_2 ?_
  refine k_aload_n E hl 3 dL_law_1561 rfl ?_
  obtain ⟨p1no_3, p1pa_4, p3_5, r_6, hg, hf⟩ := ob4 hf
  refine k_callSXGi (As := [.ref (a_p1 0), .int x_1, .int x_2, .ref (a_p3 0)]) (rest := []) (ws2 := fun u => (List.flatten [wMCo k a_p1 (a_p1in 0) (a_p1ou 0) (a_p1ru 0) (a_p1no 0) (a_p1fo 0) (a_p1rd 0) (a_p1pa 0) (svV sa_0 so_0) p1_0, wBytes k a_p1in 600 p1in_0, wBytes k a_p1ou 1024 p1ou_0, wRules k a_p1ru p1ru_0, wCourt k a_p1no (u.1), wCourt k a_p1fo p1fo_0, wReader k a_p1rd (a_p1in 0) (a_p1fo 0) (a_p1rr 0) p1rd_0, wRules k a_p1rr p1rr_0, wPast k a_p1pa (u.2.2.2) (u.2.1), wModel k a_p2 p2_0, wJArr k a_p3 1 (u.2.2.1)] ++ savW k sa_0 so_0) ++ poolW k (u.2.2.2) (u.2.1).2) (c_L_stall n l k hN hx a_p1 a_p1in a_p1ou a_p1ru a_p1no a_p1fo a_p1rd a_p1pa a_p3 pp_0 (svV sa_0 so_0) p1_0 p1ru_0 p1no_0 p1pa_0 1 p3_0 x_1 x_2 (p1no_3, p1pa_4, p3_5, r_6) hg) E sw_233 rfl dL_law_1562 rfl (posOf [1, 2, 2, 3, 12, 12, 1, 3, 2, 13, 1] [0, 3, 4, 8, 10]) hW hA hl rfl (law_mapG (ln := [1, 2, 2, 3, 12, 12, 1, 3, 2, 13, 1]) (is := [0, 3, 4, 8, 10]) (cs := [wMCo k a_p1 (a_p1in 0) (a_p1ou 0) (a_p1ru 0) (a_p1no 0) (a_p1fo 0) (a_p1rd 0) (a_p1pa 0) (svV sa_0 so_0) p1_0, wRules k a_p1ru p1ru_0, wCourt k a_p1no p1no_0, wPast k a_p1pa pp_0 p1pa_0, wJArr k a_p3 1 p3_0]) (fl5 _ _ _ _ _) rfl (by decide) rfl) ⟨Nat.le_of_ble_eq_true rfl, Nat.le_of_ble_eq_true rfl⟩ ⟨by show _ ≤ 601024; omega, by show _ ≤ 7293034; omega⟩ (Nat.le_of_ble_eq_true rfl) rfl (fun _ => rfl) (fun u => law_putG (ln := [1, 2, 2, 3, 12, 12, 1, 3, 2, 13, 1]) (is := [0, 3, 4, 8, 10]) (cs0 := [wMCo k a_p1 (a_p1in 0) (a_p1ou 0) (a_p1ru 0) (a_p1no 0) (a_p1fo 0) (a_p1rd 0) (a_p1pa 0) (svV sa_0 so_0) p1_0, wRules k a_p1ru p1ru_0, wCourt k a_p1no p1no_0, wPast k a_p1pa pp_0 p1pa_0, wJArr k a_p3 1 p3_0]) (cs := [wMCo k a_p1 (a_p1in 0) (a_p1ou 0) (a_p1ru 0) (a_p1no 0) (a_p1fo 0) (a_p1rd 0) (a_p1pa 0) (svV sa_0 so_0) p1_0, wRules k a_p1ru p1ru_0, wCourt k a_p1no (u.1), wPast k a_p1pa (u.2.2.2) (u.2.1), wJArr k a_p3 1 (u.2.2.1)]) (fl5 _ _ _ _ _) rfl (by decide) rfl rfl) (fun r u H locs hp hW => ?_)
  obtain ⟨u0, u1, u2, pp_7⟩ := u
  try dsimp only at hp
  cases hp
  have hW : WD k A s.heap ((List.flatten [wMCo k a_p1 (a_p1in 0) (a_p1ou 0) (a_p1ru 0) (a_p1no 0) (a_p1fo 0) (a_p1rd 0) (a_p1pa 0) (svV sa_0 so_0) p1_0, wBytes k a_p1in 600 p1in_0, wBytes k a_p1ou 1024 p1ou_0, wRules k a_p1ru p1ru_0, wCourt k a_p1no p1no_3, wCourt k a_p1fo p1fo_0, wReader k a_p1rd (a_p1in 0) (a_p1fo 0) (a_p1rr 0) p1rd_0, wRules k a_p1rr p1rr_0, wPast k a_p1pa pp_7 p1pa_4, wModel k a_p2 p2_0, wJArr k a_p3 1 p3_5] ++ savW k sa_0 so_0) ++ poolW k pp_7 p1pa_4.2) H locs := hW
  refine k_istore (lv' := [(5, .int r_6), (0, .ref b), (1, .ref (a_p1 0)), (2, .ref (a_p2 0)), (3, .ref (a_p3 0)), (4, .int v4)]) E rfl hl dL_law_1565 (by decide) rfl (fun ls hl => ?_)
  refine k_aload_n E hl 3 dL_law_1567 rfl ?_
  refine k_aload_n E hl 1 dL_law_1568 rfl ?_
  refine k_iload E hl 5 dL_law_1569 rfl ?_
  refine lv_iconst (v := (1 : Int32)) E.hx E.hb dL_law_1571 ic_1 ?_
  refine lv_iadd E.hx E.hb dL_law_1572 ?_
  obtain ⟨hin, hf⟩ := oI hf
  obtain ⟨x_8, ex_8, hf⟩ := oL hf
  refine va_sld E.hx E.hb hX hbl hbA hW.2.2 hin dL_law_1573 ?_
  refine k_topi ex_8 ?_
  refine k_aload_n E hl 1 dL_law_1574 rfl ?_
  refine k_iload E hl 5 dL_law_1575 rfl ?_
  refine lv_iconst (v := (2 : Int32)) E.hx E.hb dL_law_1577 ic_2 ?_
  refine lv_iadd E.hx E.hb dL_law_1578 ?_
  obtain ⟨hin, hf⟩ := oI hf
  obtain ⟨x_9, ex_9, hf⟩ := oL hf
  refine va_sld E.hx E.hb hX hbl hbA hW.2.2 hin dL_law_1579 ?_
  refine k_topi ex_9 ?_
  obtain ⟨p2_10, r_11, hg, hf⟩ := ob2 hf
  refine k_callVi (As := [.int x_8, .int x_9]) (rest := []) (ws2 := fun u => (List.flatten [wMCo k a_p1 (a_p1in 0) (a_p1ou 0) (a_p1ru 0) (a_p1no 0) (a_p1fo 0) (a_p1rd 0) (a_p1pa 0) (svV sa_0 so_0) p1_0, wBytes k a_p1in 600 p1in_0, wBytes k a_p1ou 1024 p1ou_0, wRules k a_p1ru p1ru_0, wCourt k a_p1no p1no_3, wCourt k a_p1fo p1fo_0, wReader k a_p1rd (a_p1in 0) (a_p1fo 0) (a_p1rr 0) p1rd_0, wRules k a_p1rr p1rr_0, wPast k a_p1pa pp_7 p1pa_4, wModel k a_p2 (u), wJArr k a_p3 1 p3_5] ++ savW k sa_0 so_0) ++ poolW k pp_7 p1pa_4.2) (c_X9_stall n l k a_p2 p2_0 x_8 x_9 (p2_10, r_11) hg) E vl_L_235 dL_law_1580 rfl (posOf [1, 2, 2, 3, 12, 12, 1, 3, 2, 13, 1] [9]) 7 38 hW hA hl rfl (law_map (ln := [1, 2, 2, 3, 12, 12, 1, 3, 2, 13, 1]) (is := [9]) (cs := [wModel k a_p2 p2_0]) (fl1 _) rfl (by decide) rfl) rfl rfl ⟨Nat.le_of_ble_eq_true rfl, Nat.le_of_ble_eq_true rfl⟩ ⟨by show _ ≤ 601024; omega, by show _ ≤ 7293034; omega⟩ (Nat.le_of_ble_eq_true rfl) rfl (fun _ => rfl) (fun u => law_put (ln := [1, 2, 2, 3, 12, 12, 1, 3, 2, 13, 1]) (is := [9]) (cs0 := [wModel k a_p2 p2_0]) (cs := [wModel k a_p2 (u)]) (fl1 _) rfl (by decide) rfl rfl) (fun r u H locs hp hW => ?_)
  cases hp
  have hW : WD k A s.heap ((List.flatten [wMCo k a_p1 (a_p1in 0) (a_p1ou 0) (a_p1ru 0) (a_p1no 0) (a_p1fo 0) (a_p1rd 0) (a_p1pa 0) (svV sa_0 so_0) p1_0, wBytes k a_p1in 600 p1in_0, wBytes k a_p1ou 1024 p1ou_0, wRules k a_p1ru p1ru_0, wCourt k a_p1no p1no_3, wCourt k a_p1fo p1fo_0, wReader k a_p1rd (a_p1in 0) (a_p1fo 0) (a_p1rr 0) p1rd_0, wRules k a_p1rr p1rr_0, wPast k a_p1pa pp_7 p1pa_4, wModel k a_p2 p2_10, wJArr k a_p3 1 p3_5] ++ savW k sa_0 so_0) ++ poolW k pp_7 p1pa_4.2) H locs := hW
  refine k_istore (lv' := [(6, .int r_11), (5, .int r_6), (0, .ref b), (1, .ref (a_p1 0)), (2, .ref (a_p2 0)), (3, .ref (a_p3 0)), (4, .int v4)]) E rfl hl dL_law_1583 (by decide) rfl (fun ls hl => ?_)
  refine k_aload_n E hl 4 dL_law_1585 rfl ?_
  obtain ⟨r_12, hg, hf⟩ := ob hf
  refine k_callVi (As := []) (rest := []) (ws2 := fun u => (List.flatten [wMCo k a_p1 (a_p1in 0) (a_p1ou 0) (a_p1ru 0) (a_p1no 0) (a_p1fo 0) (a_p1rd 0) (a_p1pa 0) (svV sa_0 so_0) p1_0, wBytes k a_p1in 600 p1in_0, wBytes k a_p1ou 1024 p1ou_0, wRules k a_p1ru p1ru_0, wCourt k a_p1no p1no_3, wCourt k a_p1fo p1fo_0, wReader k a_p1rd (a_p1in 0) (a_p1fo 0) (a_p1rr 0) p1rd_0, wRules k a_p1rr p1rr_0, wPast k a_p1pa pp_7 p1pa_4, wModel k a_p2 p2_10, wJArr k a_p3 1 p3_5] ++ savW k sa_0 so_0) ++ poolW k pp_7 p1pa_4.2) (c_X9_thrown n l k a_p2 p2_10 r_12 hg) E vl_L_152 dL_law_1586 rfl (posOf [1, 2, 2, 3, 12, 12, 1, 3, 2, 13, 1] [9]) 7 38 hW hA hl rfl (law_map (ln := [1, 2, 2, 3, 12, 12, 1, 3, 2, 13, 1]) (is := [9]) (cs := [wModel k a_p2 p2_10]) (fl1 _) rfl (by decide) rfl) rfl rfl ⟨Nat.le_of_ble_eq_true rfl, Nat.le_of_ble_eq_true rfl⟩ ⟨by show _ ≤ 601024; omega, by show _ ≤ 7293034; omega⟩ (Nat.le_of_ble_eq_true rfl) rfl (fun _ => rfl) (fun u => law_put (ln := [1, 2, 2, 3, 12, 12, 1, 3, 2, 13, 1]) (is := [9]) (cs0 := [wModel k a_p2 p2_10]) (cs := [wModel k a_p2 p2_10]) (fl1 _) rfl (by decide) rfl rfl) (fun r u H locs hp hW => ?_)
  cases hp
  have hW : WD k A s.heap ((List.flatten [wMCo k a_p1 (a_p1in 0) (a_p1ou 0) (a_p1ru 0) (a_p1no 0) (a_p1fo 0) (a_p1rd 0) (a_p1pa 0) (svV sa_0 so_0) p1_0, wBytes k a_p1in 600 p1in_0, wBytes k a_p1ou 1024 p1ou_0, wRules k a_p1ru p1ru_0, wCourt k a_p1no p1no_3, wCourt k a_p1fo p1fo_0, wReader k a_p1rd (a_p1in 0) (a_p1fo 0) (a_p1rr 0) p1rd_0, wRules k a_p1rr p1rr_0, wPast k a_p1pa pp_7 p1pa_4, wModel k a_p2 p2_10, wJArr k a_p3 1 p3_5] ++ savW k sa_0 so_0) ++ poolW k pp_7 p1pa_4.2) H locs := hW
  refine k_iload E hl 1 dL_law_1589 rfl ?_
  refine lv_icmp_eq (tgt := 1596) E.hx E.hb dL_law_1591 (by decide) (fun hc => ?_) (fun hc => ?_)
  · have hf := oT hc hf
    refine k_iload E hl 1 dL_law_1596 rfl ?_
    refine lv_if_ne (tgt := 1613) E.hx E.hb dL_law_1598 (by decide) (fun hc => ?_) (fun hc => ?_)
    · have hf := oF hc hf
      refine lv_goto (tgt := 2474) E.hx E.hb dL_law_1613 (by decide) ?_
      exact hgo pp_7 sa_0 _ _ _ _ _ (by omega) (by omega) (by cases hf; exact hW) (lv_sub hl [2, 3, 4, 5, 6] rfl)
    · have hf := oT hc hf
      refine k_aload_n E hl 5 dL_law_1601 rfl ?_
      refine lv_iconst (v := (0 : Int32)) E.hx E.hb dL_law_1602 ic_0 ?_
      obtain ⟨hin, hf⟩ := oI hf
      obtain ⟨x_13, ex_13, hf⟩ := oL hf
      refine k_lald E hW 51 rfl hin dL_law_1603 ?_
      refine k_topl ex_13 ?_
      refine k_iload E hl 0 dL_law_1604 rfl ?_
      refine lv_i2l (v := (r_11).toInt64) E.hx E.hb dL_law_1606 rfl ?_
      refine W.lcmp E.hx E.hb dL_law_1607 ?_
      refine lv_if_eq (tgt := 1613) E.hx E.hb dL_law_1608 (by decide) (fun hc => ?_) (fun hc => ?_)
      · have hf := oT hc hf
        refine lv_goto (tgt := 2474) E.hx E.hb dL_law_1613 (by decide) ?_
        exact hgo pp_7 sa_0 _ _ _ _ _ (by omega) (by omega) (by cases hf; exact hW) (lv_sub hl [2, 3, 4, 5, 6] rfl)
      · have hf := oF hc hf
        refine lv_iconst (v := (0 : Int32)) E.hx E.hb dL_law_1611 ic_0 ?_
        exact o0 hf
  · have hf := oF hc hf
    refine lv_iconst (v := (0 : Int32)) E.hx E.hb dL_law_1594 ic_0 ?_
    exact o0 hf
def f_law_31 (n : Nat) (L : Nat) (xs : Nat → Int32) (v4 : Int32) (sv_0 : Value) (p1_0 : OS) (p1in_0 : OS) (p1ou_0 : OS) (p1ru_0 : OS) (p1no_0 : OS) (p1fo_0 : OS) (p1rd_0 : OS) (p1rr_0 : OS) (p1pa_0 : PS) (p2_0 : OS) (p3_0 : Nat → Int64) (so_0 : Option OS) : Option LST :=
  gI L (v4 + (1 : Int32)) (Let (xs (v4 + (1 : Int32)).toNatClampNeg) (fun x_1 : Int32 =>
  bnd4 (f_L_appeal n sv_0 p1_0 p1ru_0 p1no_0 p1pa_0 1 p3_0 x_1) (fun (p1no_2 : OS) (p1pa_3 : PS) (p3_4 : Nat → Int64) (r_5 : Int32) =>
  gI L (v4 + (1 : Int32)) (Let (xs (v4 + (1 : Int32)).toNatClampNeg) (fun x_7 : Int32 =>
  bnd2 (f_X9_appeal n p2_0 x_7) (fun (p2_8 : OS) (r_9 : Int32) =>
  bnd (f_X9_thrown n p2_8) (fun (r_10 : Int32) =>
  if r_10 = r_5 then (
  if r_5 = 0 then (
  gI 1 (0 : Int32) (Let (p3_4 (0 : Int32).toNatClampNeg) (fun x_11 : Int64 =>
  if (lg_cmp x_11 ((r_9).toInt64)) = 0 then (
  some (p1_0, p1in_0, p1ou_0, p1ru_0, p1no_2, p1fo_0, p1rd_0, p1rr_0, p1pa_3, p2_8, p3_4, so_0)) else (
  none)))) else (
  some (p1_0, p1in_0, p1ou_0, p1ru_0, p1no_2, p1fo_0, p1rd_0, p1rr_0, p1pa_3, p2_8, p3_4, so_0))) else (
  none))))))))
set_option maxHeartbeats 4000000 in
set_option maxRecDepth 100000 in
theorem c_law_31 {p : Program} {l : Launch} {e : Env} {s : State} {m : MethodId} {below : List Frame} {meth : Method} {c : Code} {A : Nat → Prop} {Q : State → Prop} {b L : Nat} {xs : Nat → Int32} {k : KT} (n : Nat) (hE : EH k) (hx : XH l k) (hN : CCH k) (E : E0 p s m c cL_law 9 RL k A) (hX : va_X b L xs s s.heap) (hbl : b < s.heap.size) (hbA : ¬ A b) (hA : ∀ q : Nat, s.heap.size ≤ q → A q) (a_p1 : Nat → Nat) (a_p1in : Nat → Nat) (a_p1ou : Nat → Nat) (a_p1ru : Nat → Nat) (a_p1no : Nat → Nat) (a_p1fo : Nat → Nat) (a_p1rd : Nat → Nat) (a_p1rr : Nat → Nat) (a_p1pa : Nat → Nat) (a_p2 : Nat → Nat) (a_p3 : Nat → Nat) (pp_0 : Nat → Nat → Nat) (sa_0 : Nat → Nat) (v4 : Int32) (p1_0 : OS) (p1in_0 : OS) (p1ou_0 : OS) (p1ru_0 : OS) (p1no_0 : OS) (p1fo_0 : OS) (p1rd_0 : OS) (p1rr_0 : OS) (p1pa_0 : PS) (p2_0 : OS) (p3_0 : Nat → Int64) (so_0 : Option OS) (res : LST) (hf : f_law_31 n L xs v4 (svV sa_0 so_0) p1_0 p1in_0 p1ou_0 p1ru_0 p1no_0 p1fo_0 p1rd_0 p1rr_0 p1pa_0 p2_0 p3_0 so_0 = some res)
    (H : Heap) (locs : List Loc) (ls : Array Slot) (c0 s0 : Nat) (hc0 : c0 + 40 ≤ 601024) (hs0 : s0 + 8000 ≤ 7293034) (hW : WD k A s.heap ((List.flatten [wMCo k a_p1 (a_p1in 0) (a_p1ou 0) (a_p1ru 0) (a_p1no 0) (a_p1fo 0) (a_p1rd 0) (a_p1pa 0) (svV sa_0 so_0) p1_0, wBytes k a_p1in 600 p1in_0, wBytes k a_p1ou 1024 p1ou_0, wRules k a_p1ru p1ru_0, wCourt k a_p1no p1no_0, wCourt k a_p1fo p1fo_0, wReader k a_p1rd (a_p1in 0) (a_p1fo 0) (a_p1rr 0) p1rd_0, wRules k a_p1rr p1rr_0, wPast k a_p1pa pp_0 p1pa_0, wModel k a_p2 p2_0, wJArr k a_p3 1 p3_0] ++ savW k sa_0 so_0) ++ poolW k pp_0 p1pa_0.2) H locs) (hl : lv_has ls 9 [(0, .ref b), (1, .ref (a_p1 0)), (2, .ref (a_p2 0)), (3, .ref (a_p3 0)), (4, .int v4)])
    (hgo : ∀ (pp : Nat → Nat → Nat) (sa : Nat → Nat) (H : Heap) (locs : List Loc) (ls : Array Slot) (cells slots : Nat), cells ≤ c0 + 40 → slots ≤ s0 + 8000 → WD k A s.heap ((List.flatten [wMCo k a_p1 (a_p1in 0) (a_p1ou 0) (a_p1ru 0) (a_p1no 0) (a_p1fo 0) (a_p1rd 0) (a_p1pa 0) (svV sa (res.2.2.2.2.2.2.2.2.2.2.2)) (res.1), wBytes k a_p1in 600 (res.2.1), wBytes k a_p1ou 1024 (res.2.2.1), wRules k a_p1ru (res.2.2.2.1), wCourt k a_p1no (res.2.2.2.2.1), wCourt k a_p1fo (res.2.2.2.2.2.1), wReader k a_p1rd (a_p1in 0) (a_p1fo 0) (a_p1rr 0) (res.2.2.2.2.2.2.1), wRules k a_p1rr (res.2.2.2.2.2.2.2.1), wPast k a_p1pa pp (res.2.2.2.2.2.2.2.2.1), wModel k a_p2 (res.2.2.2.2.2.2.2.2.2.1), wJArr k a_p3 1 (res.2.2.2.2.2.2.2.2.2.2.1)] ++ savW k sa (res.2.2.2.2.2.2.2.2.2.2.2)) ++ poolW k pp (res.2.2.2.2.2.2.2.2.1).2) H locs → lv_has ls 9 [(0, .ref b), (1, .ref (a_p1 0)), (2, .ref (a_p2 0)), (3, .ref (a_p3 0)), (4, .int v4)] → W p l e room_1 s m #[Value.ref b] below meth c H locs cells slots Q (F0 m 2474 ls [])) :
    W p l e room_1 s m #[Value.ref b] below meth c H locs c0 s0 Q (F0 m 1616 ls []) := by
  unfold f_law_31 at hf
  refine k_aload_n E hl 1 dL_law_1616 rfl ?_
  refine k_aload_n E hl 0 dL_law_1617 rfl ?_
  refine k_iload E hl 4 dL_law_1618 rfl ?_
  refine lv_iconst (v := (1 : Int32)) E.hx E.hb dL_law_1620 ic_1 ?_
  refine lv_iadd E.hx E.hb dL_law_1621 ?_
  obtain ⟨hin, hf⟩ := oI hf
  obtain ⟨x_1, ex_1, hf⟩ := oL hf
  refine va_sld E.hx E.hb hX hbl hbA hW.2.2 hin dL_law_1622 ?_
  refine k_topi ex_1 ?_
  refine k_aload_n E hl 3 dL_law_1623 rfl ?_
  obtain ⟨p1no_2, p1pa_3, p3_4, r_5, hg, hf⟩ := ob4 hf
  refine k_callSXGi (As := [.ref (a_p1 0), .int x_1, .ref (a_p3 0)]) (rest := []) (ws2 := fun u => (List.flatten [wMCo k a_p1 (a_p1in 0) (a_p1ou 0) (a_p1ru 0) (a_p1no 0) (a_p1fo 0) (a_p1rd 0) (a_p1pa 0) (svV sa_0 so_0) p1_0, wBytes k a_p1in 600 p1in_0, wBytes k a_p1ou 1024 p1ou_0, wRules k a_p1ru p1ru_0, wCourt k a_p1no (u.1), wCourt k a_p1fo p1fo_0, wReader k a_p1rd (a_p1in 0) (a_p1fo 0) (a_p1rr 0) p1rd_0, wRules k a_p1rr p1rr_0, wPast k a_p1pa (u.2.2.2) (u.2.1), wModel k a_p2 p2_0, wJArr k a_p3 1 (u.2.2.1)] ++ savW k sa_0 so_0) ++ poolW k (u.2.2.2) (u.2.1).2) (c_L_appeal n l k hN hx a_p1 a_p1in a_p1ou a_p1ru a_p1no a_p1fo a_p1rd a_p1pa a_p3 pp_0 (svV sa_0 so_0) p1_0 p1ru_0 p1no_0 p1pa_0 1 p3_0 x_1 (p1no_2, p1pa_3, p3_4, r_5) hg) E sw_236 rfl dL_law_1624 rfl (posOf [1, 2, 2, 3, 12, 12, 1, 3, 2, 13, 1] [0, 3, 4, 8, 10]) hW hA hl rfl (law_mapG (ln := [1, 2, 2, 3, 12, 12, 1, 3, 2, 13, 1]) (is := [0, 3, 4, 8, 10]) (cs := [wMCo k a_p1 (a_p1in 0) (a_p1ou 0) (a_p1ru 0) (a_p1no 0) (a_p1fo 0) (a_p1rd 0) (a_p1pa 0) (svV sa_0 so_0) p1_0, wRules k a_p1ru p1ru_0, wCourt k a_p1no p1no_0, wPast k a_p1pa pp_0 p1pa_0, wJArr k a_p3 1 p3_0]) (fl5 _ _ _ _ _) rfl (by decide) rfl) ⟨Nat.le_of_ble_eq_true rfl, Nat.le_of_ble_eq_true rfl⟩ ⟨by show _ ≤ 601024; omega, by show _ ≤ 7293034; omega⟩ (Nat.le_of_ble_eq_true rfl) rfl (fun _ => rfl) (fun u => law_putG (ln := [1, 2, 2, 3, 12, 12, 1, 3, 2, 13, 1]) (is := [0, 3, 4, 8, 10]) (cs0 := [wMCo k a_p1 (a_p1in 0) (a_p1ou 0) (a_p1ru 0) (a_p1no 0) (a_p1fo 0) (a_p1rd 0) (a_p1pa 0) (svV sa_0 so_0) p1_0, wRules k a_p1ru p1ru_0, wCourt k a_p1no p1no_0, wPast k a_p1pa pp_0 p1pa_0, wJArr k a_p3 1 p3_0]) (cs := [wMCo k a_p1 (a_p1in 0) (a_p1ou 0) (a_p1ru 0) (a_p1no 0) (a_p1fo 0) (a_p1rd 0) (a_p1pa 0) (svV sa_0 so_0) p1_0, wRules k a_p1ru p1ru_0, wCourt k a_p1no (u.1), wPast k a_p1pa (u.2.2.2) (u.2.1), wJArr k a_p3 1 (u.2.2.1)]) (fl5 _ _ _ _ _) rfl (by decide) rfl rfl) (fun r u H locs hp hW => ?_)
  obtain ⟨u0, u1, u2, pp_6⟩ := u
  try dsimp only at hp
  cases hp
  have hW : WD k A s.heap ((List.flatten [wMCo k a_p1 (a_p1in 0) (a_p1ou 0) (a_p1ru 0) (a_p1no 0) (a_p1fo 0) (a_p1rd 0) (a_p1pa 0) (svV sa_0 so_0) p1_0, wBytes k a_p1in 600 p1in_0, wBytes k a_p1ou 1024 p1ou_0, wRules k a_p1ru p1ru_0, wCourt k a_p1no p1no_2, wCourt k a_p1fo p1fo_0, wReader k a_p1rd (a_p1in 0) (a_p1fo 0) (a_p1rr 0) p1rd_0, wRules k a_p1rr p1rr_0, wPast k a_p1pa pp_6 p1pa_3, wModel k a_p2 p2_0, wJArr k a_p3 1 p3_4] ++ savW k sa_0 so_0) ++ poolW k pp_6 p1pa_3.2) H locs := hW
  refine k_istore (lv' := [(5, .int r_5), (0, .ref b), (1, .ref (a_p1 0)), (2, .ref (a_p2 0)), (3, .ref (a_p3 0)), (4, .int v4)]) E rfl hl dL_law_1627 (by decide) rfl (fun ls hl => ?_)
  refine k_aload_n E hl 3 dL_law_1629 rfl ?_
  refine k_aload_n E hl 1 dL_law_1630 rfl ?_
  refine k_iload E hl 5 dL_law_1631 rfl ?_
  refine lv_iconst (v := (1 : Int32)) E.hx E.hb dL_law_1633 ic_1 ?_
  refine lv_iadd E.hx E.hb dL_law_1634 ?_
  obtain ⟨hin, hf⟩ := oI hf
  obtain ⟨x_7, ex_7, hf⟩ := oL hf
  refine va_sld E.hx E.hb hX hbl hbA hW.2.2 hin dL_law_1635 ?_
  refine k_topi ex_7 ?_
  obtain ⟨p2_8, r_9, hg, hf⟩ := ob2 hf
  refine k_callVi (As := [.int x_7]) (rest := []) (ws2 := fun u => (List.flatten [wMCo k a_p1 (a_p1in 0) (a_p1ou 0) (a_p1ru 0) (a_p1no 0) (a_p1fo 0) (a_p1rd 0) (a_p1pa 0) (svV sa_0 so_0) p1_0, wBytes k a_p1in 600 p1in_0, wBytes k a_p1ou 1024 p1ou_0, wRules k a_p1ru p1ru_0, wCourt k a_p1no p1no_2, wCourt k a_p1fo p1fo_0, wReader k a_p1rd (a_p1in 0) (a_p1fo 0) (a_p1rr 0) p1rd_0, wRules k a_p1rr p1rr_0, wPast k a_p1pa pp_6 p1pa_3, wModel k a_p2 (u), wJArr k a_p3 1 p3_4] ++ savW k sa_0 so_0) ++ poolW k pp_6 p1pa_3.2) (c_X9_appeal n l k a_p2 p2_0 x_7 (p2_8, r_9) hg) E vl_L_238 dL_law_1636 rfl (posOf [1, 2, 2, 3, 12, 12, 1, 3, 2, 13, 1] [9]) 7 38 hW hA hl rfl (law_map (ln := [1, 2, 2, 3, 12, 12, 1, 3, 2, 13, 1]) (is := [9]) (cs := [wModel k a_p2 p2_0]) (fl1 _) rfl (by decide) rfl) rfl rfl ⟨Nat.le_of_ble_eq_true rfl, Nat.le_of_ble_eq_true rfl⟩ ⟨by show _ ≤ 601024; omega, by show _ ≤ 7293034; omega⟩ (Nat.le_of_ble_eq_true rfl) rfl (fun _ => rfl) (fun u => law_put (ln := [1, 2, 2, 3, 12, 12, 1, 3, 2, 13, 1]) (is := [9]) (cs0 := [wModel k a_p2 p2_0]) (cs := [wModel k a_p2 (u)]) (fl1 _) rfl (by decide) rfl rfl) (fun r u H locs hp hW => ?_)
  cases hp
  have hW : WD k A s.heap ((List.flatten [wMCo k a_p1 (a_p1in 0) (a_p1ou 0) (a_p1ru 0) (a_p1no 0) (a_p1fo 0) (a_p1rd 0) (a_p1pa 0) (svV sa_0 so_0) p1_0, wBytes k a_p1in 600 p1in_0, wBytes k a_p1ou 1024 p1ou_0, wRules k a_p1ru p1ru_0, wCourt k a_p1no p1no_2, wCourt k a_p1fo p1fo_0, wReader k a_p1rd (a_p1in 0) (a_p1fo 0) (a_p1rr 0) p1rd_0, wRules k a_p1rr p1rr_0, wPast k a_p1pa pp_6 p1pa_3, wModel k a_p2 p2_8, wJArr k a_p3 1 p3_4] ++ savW k sa_0 so_0) ++ poolW k pp_6 p1pa_3.2) H locs := hW
  refine k_istore (lv' := [(6, .int r_9), (5, .int r_5), (0, .ref b), (1, .ref (a_p1 0)), (2, .ref (a_p2 0)), (3, .ref (a_p3 0)), (4, .int v4)]) E rfl hl dL_law_1639 (by decide) rfl (fun ls hl => ?_)
  refine k_aload_n E hl 4 dL_law_1641 rfl ?_
  obtain ⟨r_10, hg, hf⟩ := ob hf
  refine k_callVi (As := []) (rest := []) (ws2 := fun u => (List.flatten [wMCo k a_p1 (a_p1in 0) (a_p1ou 0) (a_p1ru 0) (a_p1no 0) (a_p1fo 0) (a_p1rd 0) (a_p1pa 0) (svV sa_0 so_0) p1_0, wBytes k a_p1in 600 p1in_0, wBytes k a_p1ou 1024 p1ou_0, wRules k a_p1ru p1ru_0, wCourt k a_p1no p1no_2, wCourt k a_p1fo p1fo_0, wReader k a_p1rd (a_p1in 0) (a_p1fo 0) (a_p1rr 0) p1rd_0, wRules k a_p1rr p1rr_0, wPast k a_p1pa pp_6 p1pa_3, wModel k a_p2 p2_8, wJArr k a_p3 1 p3_4] ++ savW k sa_0 so_0) ++ poolW k pp_6 p1pa_3.2) (c_X9_thrown n l k a_p2 p2_8 r_10 hg) E vl_L_152 dL_law_1642 rfl (posOf [1, 2, 2, 3, 12, 12, 1, 3, 2, 13, 1] [9]) 7 38 hW hA hl rfl (law_map (ln := [1, 2, 2, 3, 12, 12, 1, 3, 2, 13, 1]) (is := [9]) (cs := [wModel k a_p2 p2_8]) (fl1 _) rfl (by decide) rfl) rfl rfl ⟨Nat.le_of_ble_eq_true rfl, Nat.le_of_ble_eq_true rfl⟩ ⟨by show _ ≤ 601024; omega, by show _ ≤ 7293034; omega⟩ (Nat.le_of_ble_eq_true rfl) rfl (fun _ => rfl) (fun u => law_put (ln := [1, 2, 2, 3, 12, 12, 1, 3, 2, 13, 1]) (is := [9]) (cs0 := [wModel k a_p2 p2_8]) (cs := [wModel k a_p2 p2_8]) (fl1 _) rfl (by decide) rfl rfl) (fun r u H locs hp hW => ?_)
  cases hp
  have hW : WD k A s.heap ((List.flatten [wMCo k a_p1 (a_p1in 0) (a_p1ou 0) (a_p1ru 0) (a_p1no 0) (a_p1fo 0) (a_p1rd 0) (a_p1pa 0) (svV sa_0 so_0) p1_0, wBytes k a_p1in 600 p1in_0, wBytes k a_p1ou 1024 p1ou_0, wRules k a_p1ru p1ru_0, wCourt k a_p1no p1no_2, wCourt k a_p1fo p1fo_0, wReader k a_p1rd (a_p1in 0) (a_p1fo 0) (a_p1rr 0) p1rd_0, wRules k a_p1rr p1rr_0, wPast k a_p1pa pp_6 p1pa_3, wModel k a_p2 p2_8, wJArr k a_p3 1 p3_4] ++ savW k sa_0 so_0) ++ poolW k pp_6 p1pa_3.2) H locs := hW
  refine k_iload E hl 1 dL_law_1645 rfl ?_
  refine lv_icmp_eq (tgt := 1652) E.hx E.hb dL_law_1647 (by decide) (fun hc => ?_) (fun hc => ?_)
  · have hf := oT hc hf
    refine k_iload E hl 1 dL_law_1652 rfl ?_
    refine lv_if_ne (tgt := 1669) E.hx E.hb dL_law_1654 (by decide) (fun hc => ?_) (fun hc => ?_)
    · have hf := oF hc hf
      refine lv_goto (tgt := 2474) E.hx E.hb dL_law_1669 (by decide) ?_
      exact hgo pp_6 sa_0 _ _ _ _ _ (by omega) (by omega) (by cases hf; exact hW) (lv_sub hl [2, 3, 4, 5, 6] rfl)
    · have hf := oT hc hf
      refine k_aload_n E hl 5 dL_law_1657 rfl ?_
      refine lv_iconst (v := (0 : Int32)) E.hx E.hb dL_law_1658 ic_0 ?_
      obtain ⟨hin, hf⟩ := oI hf
      obtain ⟨x_11, ex_11, hf⟩ := oL hf
      refine k_lald E hW 51 rfl hin dL_law_1659 ?_
      refine k_topl ex_11 ?_
      refine k_iload E hl 0 dL_law_1660 rfl ?_
      refine lv_i2l (v := (r_9).toInt64) E.hx E.hb dL_law_1662 rfl ?_
      refine W.lcmp E.hx E.hb dL_law_1663 ?_
      refine lv_if_eq (tgt := 1669) E.hx E.hb dL_law_1664 (by decide) (fun hc => ?_) (fun hc => ?_)
      · have hf := oT hc hf
        refine lv_goto (tgt := 2474) E.hx E.hb dL_law_1669 (by decide) ?_
        exact hgo pp_6 sa_0 _ _ _ _ _ (by omega) (by omega) (by cases hf; exact hW) (lv_sub hl [2, 3, 4, 5, 6] rfl)
      · have hf := oF hc hf
        refine lv_iconst (v := (0 : Int32)) E.hx E.hb dL_law_1667 ic_0 ?_
        exact o0 hf
  · have hf := oF hc hf
    refine lv_iconst (v := (0 : Int32)) E.hx E.hb dL_law_1650 ic_0 ?_
    exact o0 hf
