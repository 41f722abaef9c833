theorem tm_1466 : (Jvm.Cond.methodLink "MemoryCourtModel" (207 : Nat) ({ cls := "MemoryCourtModel", name := "areTicks", desc := "(I)Z" } : Jvm.MethodName)) ∈ lw_tbl := List.mem_of_getElem? (i := 1466) (by decide +kernel)
theorem tm_1467 : (Jvm.Cond.static ({ cls := "MemoryCourtModel", name := "areTicks", desc := "(I)Z" } : Jvm.MethodName)) ∈ lw_tbl := List.mem_of_getElem? (i := 1467) (by decide +kernel)
theorem tm_1468 : (Jvm.Cond.code ({ cls := "MemoryCourtModel", name := "areTicks", desc := "(I)Z" } : Jvm.MethodName) prog_11_method_50_code (1 : Nat) (Option.some Jvm.ClassFile.FieldType.boolean)) ∈ lw_tbl := List.mem_of_getElem? (i := 1468) (by decide +kernel)
theorem tm_1470 : (Jvm.Cond.methodLink "MemoryCourtModel" (210 : Nat) ({ cls := "MemoryCourtModel", name := "may", desc := "(ZI)Z" } : Jvm.MethodName)) ∈ lw_tbl := List.mem_of_getElem? (i := 1470) (by decide +kernel)
theorem tm_1472 : (Jvm.Cond.instanceMethod ({ cls := "MemoryCourtModel", name := "may", desc := "(ZI)Z" } : Jvm.MethodName)) ∈ lw_tbl := List.mem_of_getElem? (i := 1472) (by decide +kernel)
theorem tms_37 : (Jvm.Cond.selects "MemoryCourtModel" ({ cls := "MemoryCourtModel", name := "may", desc := "(ZI)Z" } : Jvm.MethodName) ({ cls := "MemoryCourtModel", name := "may", desc := "(ZI)Z" } : Jvm.MethodName)) ∈ lw_tbl := List.mem_of_getElem? (i := 37) (by decide +kernel)
theorem tm_1473 : (Jvm.Cond.code ({ cls := "MemoryCourtModel", name := "may", desc := "(ZI)Z" } : Jvm.MethodName) prog_11_method_4_code (3 : Nat) (Option.some Jvm.ClassFile.FieldType.boolean)) ∈ lw_tbl := List.mem_of_getElem? (i := 1473) (by decide +kernel)
theorem tm_1474 : (Jvm.Cond.methodLink "MemoryCourtModel" (214 : Nat) ({ cls := "MemoryCourtModel", name := "starts", desc := "()V" } : Jvm.MethodName)) ∈ lw_tbl := List.mem_of_getElem? (i := 1474) (by decide +kernel)
theorem tm_1476 : (Jvm.Cond.instanceMethod ({ cls := "MemoryCourtModel", name := "starts", desc := "()V" } : Jvm.MethodName)) ∈ lw_tbl := List.mem_of_getElem? (i := 1476) (by decide +kernel)
theorem tms_38 : (Jvm.Cond.selects "MemoryCourtModel" ({ cls := "MemoryCourtModel", name := "starts", desc := "()V" } : Jvm.MethodName) ({ cls := "MemoryCourtModel", name := "starts", desc := "()V" } : Jvm.MethodName)) ∈ lw_tbl := List.mem_of_getElem? (i := 38) (by decide +kernel)
theorem tm_1477 : (Jvm.Cond.code ({ cls := "MemoryCourtModel", name := "starts", desc := "()V" } : Jvm.MethodName) prog_11_method_10_code (1 : Nat) (Option.none : Option Jvm.ClassFile.FieldType)) ∈ lw_tbl := List.mem_of_getElem? (i := 1477) (by decide +kernel)
theorem tm_1478 : (Jvm.Cond.methodLink "MemoryCourtModel" (217 : Nat) ({ cls := "MemoryCourtModel", name := "goesOn", desc := "(I)I" } : Jvm.MethodName)) ∈ lw_tbl := List.mem_of_getElem? (i := 1478) (by decide +kernel)
theorem tm_1480 : (Jvm.Cond.instanceMethod ({ cls := "MemoryCourtModel", name := "goesOn", desc := "(I)I" } : Jvm.MethodName)) ∈ lw_tbl := List.mem_of_getElem? (i := 1480) (by decide +kernel)
theorem tms_39 : (Jvm.Cond.selects "MemoryCourtModel" ({ cls := "MemoryCourtModel", name := "goesOn", desc := "(I)I" } : Jvm.MethodName) ({ cls := "MemoryCourtModel", name := "goesOn", desc := "(I)I" } : Jvm.MethodName)) ∈ lw_tbl := List.mem_of_getElem? (i := 39) (by decide +kernel)
theorem tm_1481 : (Jvm.Cond.code ({ cls := "MemoryCourtModel", name := "goesOn", desc := "(I)I" } : Jvm.MethodName) prog_11_method_48_code (4 : Nat) (Option.some Jvm.ClassFile.FieldType.int)) ∈ lw_tbl := List.mem_of_getElem? (i := 1481) (by decide +kernel)
theorem tm_1588 : (Jvm.Cond.methodLink "MemoryCourtModel" (220 : Nat) ({ cls := "MemoryCourtModel", name := "done", desc := "(I)I" } : Jvm.MethodName)) ∈ lw_tbl := List.mem_of_getElem? (i := 1588) (by decide +kernel)
theorem tm_1590 : (Jvm.Cond.instanceMethod ({ cls := "MemoryCourtModel", name := "done", desc := "(I)I" } : Jvm.MethodName)) ∈ lw_tbl := List.mem_of_getElem? (i := 1590) (by decide +kernel)
theorem tms_62 : (Jvm.Cond.selects "MemoryCourtModel" ({ cls := "MemoryCourtModel", name := "done", desc := "(I)I" } : Jvm.MethodName) ({ cls := "MemoryCourtModel", name := "done", desc := "(I)I" } : Jvm.MethodName)) ∈ lw_tbl := List.mem_of_getElem? (i := 62) (by decide +kernel)
theorem tm_1591 : (Jvm.Cond.code ({ cls := "MemoryCourtModel", name := "done", desc := "(I)I" } : Jvm.MethodName) prog_11_method_11_code (3 : Nat) (Option.some Jvm.ClassFile.FieldType.int)) ∈ lw_tbl := List.mem_of_getElem? (i := 1591) (by decide +kernel)
theorem tm_1596 : (Jvm.Cond.methodLink "MemoryCourtModel" (223 : Nat) ({ cls := "MemoryCourtModel", name := "isProcess", desc := "(I)Z" } : Jvm.MethodName)) ∈ lw_tbl := List.mem_of_getElem? (i := 1596) (by decide +kernel)
theorem tm_1598 : (Jvm.Cond.instanceMethod ({ cls := "MemoryCourtModel", name := "isProcess", desc := "(I)Z" } : Jvm.MethodName)) ∈ lw_tbl := List.mem_of_getElem? (i := 1598) (by decide +kernel)
theorem tms_63 : (Jvm.Cond.selects "MemoryCourtModel" ({ cls := "MemoryCourtModel", name := "isProcess", desc := "(I)Z" } : Jvm.MethodName) ({ cls := "MemoryCourtModel", name := "isProcess", desc := "(I)Z" } : Jvm.MethodName)) ∈ lw_tbl := List.mem_of_getElem? (i := 63) (by decide +kernel)
theorem tm_1599 : (Jvm.Cond.code ({ cls := "MemoryCourtModel", name := "isProcess", desc := "(I)Z" } : Jvm.MethodName) prog_11_method_23_code (2 : Nat) (Option.some Jvm.ClassFile.FieldType.boolean)) ∈ lw_tbl := List.mem_of_getElem? (i := 1599) (by decide +kernel)
theorem tm_1601 : (Jvm.Cond.methodLink "MemoryCourtModel" (228 : Nat) ({ cls := "MemoryCourtModel", name := "asks", desc := "([IIII)I" } : Jvm.MethodName)) ∈ lw_tbl := List.mem_of_getElem? (i := 1601) (by decide +kernel)
theorem tm_1602 : (Jvm.Cond.static ({ cls := "MemoryCourtModel", name := "asks", desc := "([IIII)I" } : Jvm.MethodName)) ∈ lw_tbl := List.mem_of_getElem? (i := 1602) (by decide +kernel)
theorem tm_1603 : (Jvm.Cond.code ({ cls := "MemoryCourtModel", name := "asks", desc := "([IIII)I" } : Jvm.MethodName) prog_11_method_34_code (6 : Nat) (Option.some Jvm.ClassFile.FieldType.int)) ∈ lw_tbl := List.mem_of_getElem? (i := 1603) (by decide +kernel)
theorem tm_1600 : (Jvm.Cond.constantLong "MemoryCourtModel" (226 : Nat) (99 : Int64)) ∈ lw_tbl := List.mem_of_getElem? (i := 1600) (by decide +kernel)
theorem tm_1608 : (Jvm.Cond.methodLink "MemoryCourtModel" (232 : Nat) ({ cls := "MemoryCourtModel", name := "isClaim", desc := "(I)Z" } : Jvm.MethodName)) ∈ lw_tbl := List.mem_of_getElem? (i := 1608) (by decide +kernel)
theorem tm_1610 : (Jvm.Cond.instanceMethod ({ cls := "MemoryCourtModel", name := "isClaim", desc := "(I)Z" } : Jvm.MethodName)) ∈ lw_tbl := List.mem_of_getElem? (i := 1610) (by decide +kernel)
theorem tms_64 : (Jvm.Cond.selects "MemoryCourtModel" ({ cls := "MemoryCourtModel", name := "isClaim", desc := "(I)Z" } : Jvm.MethodName) ({ cls := "MemoryCourtModel", name := "isClaim", desc := "(I)Z" } : Jvm.MethodName)) ∈ lw_tbl := List.mem_of_getElem? (i := 64) (by decide +kernel)
theorem tm_1611 : (Jvm.Cond.code ({ cls := "MemoryCourtModel", name := "isClaim", desc := "(I)Z" } : Jvm.MethodName) prog_11_method_25_code (2 : Nat) (Option.some Jvm.ClassFile.FieldType.boolean)) ∈ lw_tbl := List.mem_of_getElem? (i := 1611) (by decide +kernel)
theorem tm_1616 : (Jvm.Cond.methodLink "MemoryCourtModel" (235 : Nat) ({ cls := "MemoryCourtModel", name := "isLoan", desc := "(I)Z" } : Jvm.MethodName)) ∈ lw_tbl := List.mem_of_getElem? (i := 1616) (by decide +kernel)
theorem tm_1618 : (Jvm.Cond.instanceMethod ({ cls := "MemoryCourtModel", name := "isLoan", desc := "(I)Z" } : Jvm.MethodName)) ∈ lw_tbl := List.mem_of_getElem? (i := 1618) (by decide +kernel)
theorem tms_65 : (Jvm.Cond.selects "MemoryCourtModel" ({ cls := "MemoryCourtModel", name := "isLoan", desc := "(I)Z" } : Jvm.MethodName) ({ cls := "MemoryCourtModel", name := "isLoan", desc := "(I)Z" } : Jvm.MethodName)) ∈ lw_tbl := List.mem_of_getElem? (i := 65) (by decide +kernel)
theorem tm_1619 : (Jvm.Cond.code ({ cls := "MemoryCourtModel", name := "isLoan", desc := "(I)Z" } : Jvm.MethodName) prog_11_method_24_code (2 : Nat) (Option.some Jvm.ClassFile.FieldType.boolean)) ∈ lw_tbl := List.mem_of_getElem? (i := 1619) (by decide +kernel)
theorem tm_1628 : (Jvm.Cond.methodLink "MemoryCourtModel" (238 : Nat) ({ cls := "MemoryCourtModel", name := "doOthersWait", desc := "(I)Z" } : Jvm.MethodName)) ∈ lw_tbl := List.mem_of_getElem? (i := 1628) (by decide +kernel)
theorem tm_1630 : (Jvm.Cond.instanceMethod ({ cls := "MemoryCourtModel", name := "doOthersWait", desc := "(I)Z" } : Jvm.MethodName)) ∈ lw_tbl := List.mem_of_getElem? (i := 1630) (by decide +kernel)
theorem tms_67 : (Jvm.Cond.selects "MemoryCourtModel" ({ cls := "MemoryCourtModel", name := "doOthersWait", desc := "(I)Z" } : Jvm.MethodName) ({ cls := "MemoryCourtModel", name := "doOthersWait", desc := "(I)Z" } : Jvm.MethodName)) ∈ lw_tbl := List.mem_of_getElem? (i := 67) (by decide +kernel)
theorem tm_1631 : (Jvm.Cond.code ({ cls := "MemoryCourtModel", name := "doOthersWait", desc := "(I)Z" } : Jvm.MethodName) prog_11_method_55_code (3 : Nat) (Option.some Jvm.ClassFile.FieldType.boolean)) ∈ lw_tbl := List.mem_of_getElem? (i := 1631) (by decide +kernel)
theorem tm_1624 : (Jvm.Cond.methodLink "MemoryCourtModel" (241 : Nat) ({ cls := "MemoryCourtModel", name := "canRenew", desc := "(I)Z" } : Jvm.MethodName)) ∈ lw_tbl := List.mem_of_getElem? (i := 1624) (by decide +kernel)
theorem tm_1626 : (Jvm.Cond.instanceMethod ({ cls := "MemoryCourtModel", name := "canRenew", desc := "(I)Z" } : Jvm.MethodName)) ∈ lw_tbl := List.mem_of_getElem? (i := 1626) (by decide +kernel)
theorem tms_66 : (Jvm.Cond.selects "MemoryCourtModel" ({ cls := "MemoryCourtModel", name := "canRenew", desc := "(I)Z" } : Jvm.MethodName) ({ cls := "MemoryCourtModel", name := "canRenew", desc := "(I)Z" } : Jvm.MethodName)) ∈ lw_tbl := List.mem_of_getElem? (i := 66) (by decide +kernel)
theorem tm_1627 : (Jvm.Cond.code ({ cls := "MemoryCourtModel", name := "canRenew", desc := "(I)Z" } : Jvm.MethodName) prog_11_method_56_code (3 : Nat) (Option.some Jvm.ClassFile.FieldType.boolean)) ∈ lw_tbl := List.mem_of_getElem? (i := 1627) (by decide +kernel)
theorem tm_1648 : (Jvm.Cond.methodLink "MemoryCourtModel" (244 : Nat) ({ cls := "MemoryCourtModel", name := "fine0", desc := "(II)I" } : Jvm.MethodName)) ∈ lw_tbl := List.mem_of_getElem? (i := 1648) (by decide +kernel)
theorem tm_1650 : (Jvm.Cond.instanceMethod ({ cls := "MemoryCourtModel", name := "fine0", desc := "(II)I" } : Jvm.MethodName)) ∈ lw_tbl := List.mem_of_getElem? (i := 1650) (by decide +kernel)
theorem tms_70 : (Jvm.Cond.selects "MemoryCourtModel" ({ cls := "MemoryCourtModel", name := "fine0", desc := "(II)I" } : Jvm.MethodName) ({ cls := "MemoryCourtModel", name := "fine0", desc := "(II)I" } : Jvm.MethodName)) ∈ lw_tbl := List.mem_of_getElem? (i := 70) (by decide +kernel)
theorem tm_1651 : (Jvm.Cond.code ({ cls := "MemoryCourtModel", name := "fine0", desc := "(II)I" } : Jvm.MethodName) prog_11_method_22_code (3 : Nat) (Option.some Jvm.ClassFile.FieldType.int)) ∈ lw_tbl := List.mem_of_getElem? (i := 1651) (by decide +kernel)
theorem tm_1664 : (Jvm.Cond.methodLink "MemoryCourtModel" (247 : Nat) ({ cls := "MemoryCourtModel", name := "wasStalledIn", desc := "(II)Z" } : Jvm.MethodName)) ∈ lw_tbl := List.mem_of_getElem? (i := 1664) (by decide +kernel)
theorem tm_1666 : (Jvm.Cond.instanceMethod ({ cls := "MemoryCourtModel", name := "wasStalledIn", desc := "(II)Z" } : Jvm.MethodName)) ∈ lw_tbl := List.mem_of_getElem? (i := 1666) (by decide +kernel)
theorem tms_74 : (Jvm.Cond.selects "MemoryCourtModel" ({ cls := "MemoryCourtModel", name := "wasStalledIn", desc := "(II)Z" } : Jvm.MethodName) ({ cls := "MemoryCourtModel", name := "wasStalledIn", desc := "(II)Z" } : Jvm.MethodName)) ∈ lw_tbl := List.mem_of_getElem? (i := 74) (by decide +kernel)
theorem tm_1667 : (Jvm.Cond.code ({ cls := "MemoryCourtModel", name := "wasStalledIn", desc := "(II)Z" } : Jvm.MethodName) prog_11_method_59_code (3 : Nat) (Option.some Jvm.ClassFile.FieldType.boolean)) ∈ lw_tbl := List.mem_of_getElem? (i := 1667) (by decide +kernel)
theorem tm_1325 : (Jvm.Cond.fieldLink "MemoryCourtModel" (251 : Nat) "MemoryCourtModel" "limit" "I") ∈ lw_tbl := List.mem_of_getElem? (i := 1325) (by decide +kernel)
theorem tm_1656 : (Jvm.Cond.methodLink "MemoryCourtModel" (254 : Nat) ({ cls := "MemoryCourtModel", name := "lengthOf", desc := "(I)I" } : Jvm.MethodName)) ∈ lw_tbl := List.mem_of_getElem? (i := 1656) (by decide +kernel)
theorem tm_1658 : (Jvm.Cond.instanceMethod ({ cls := "MemoryCourtModel", name := "lengthOf", desc := "(I)I" } : Jvm.MethodName)) ∈ lw_tbl := List.mem_of_getElem? (i := 1658) (by decide +kernel)
theorem tms_72 : (Jvm.Cond.selects "MemoryCourtModel" ({ cls := "MemoryCourtModel", name := "lengthOf", desc := "(I)I" } : Jvm.MethodName) ({ cls := "MemoryCourtModel", name := "lengthOf", desc := "(I)I" } : Jvm.MethodName)) ∈ lw_tbl := List.mem_of_getElem? (i := 72) (by decide +kernel)
theorem tm_1659 : (Jvm.Cond.code ({ cls := "MemoryCourtModel", name := "lengthOf", desc := "(I)I" } : Jvm.MethodName) prog_11_method_61_code (2 : Nat) (Option.some Jvm.ClassFile.FieldType.int)) ∈ lw_tbl := List.mem_of_getElem? (i := 1659) (by decide +kernel)
theorem tm_1660 : (Jvm.Cond.methodLink "MemoryCourtModel" (257 : Nat) ({ cls := "MemoryCourtModel", name := "evidenceFor", desc := "(I)I" } : Jvm.MethodName)) ∈ lw_tbl := List.mem_of_getElem? (i := 1660) (by decide +kernel)
theorem tm_1662 : (Jvm.Cond.instanceMethod ({ cls := "MemoryCourtModel", name := "evidenceFor", desc := "(I)I" } : Jvm.MethodName)) ∈ lw_tbl := List.mem_of_getElem? (i := 1662) (by decide +kernel)
theorem tms_73 : (Jvm.Cond.selects "MemoryCourtModel" ({ cls := "MemoryCourtModel", name := "evidenceFor", desc := "(I)I" } : Jvm.MethodName) ({ cls := "MemoryCourtModel", name := "evidenceFor", desc := "(I)I" } : Jvm.MethodName)) ∈ lw_tbl := List.mem_of_getElem? (i := 73) (by decide +kernel)
theorem tm_1663 : (Jvm.Cond.code ({ cls := "MemoryCourtModel", name := "evidenceFor", desc := "(I)I" } : Jvm.MethodName) prog_11_method_60_code (4 : Nat) (Option.some Jvm.ClassFile.FieldType.int)) ∈ lw_tbl := List.mem_of_getElem? (i := 1663) (by decide +kernel)
theorem tm_1640 : (Jvm.Cond.methodLink "MemoryCourtModel" (260 : Nat) ({ cls := "MemoryCourtModel", name := "isKnown", desc := "(I)Z" } : Jvm.MethodName)) ∈ lw_tbl := List.mem_of_getElem? (i := 1640) (by decide +kernel)
theorem tm_1642 : (Jvm.Cond.instanceMethod ({ cls := "MemoryCourtModel", name := "isKnown", desc := "(I)Z" } : Jvm.MethodName)) ∈ lw_tbl := List.mem_of_getElem? (i := 1642) (by decide +kernel)
theorem tms_68 : (Jvm.Cond.selects "MemoryCourtModel" ({ cls := "MemoryCourtModel", name := "isKnown", desc := "(I)Z" } : Jvm.MethodName) ({ cls := "MemoryCourtModel", name := "isKnown", desc := "(I)Z" } : Jvm.MethodName)) ∈ lw_tbl := List.mem_of_getElem? (i := 68) (by decide +kernel)
theorem tm_1643 : (Jvm.Cond.code ({ cls := "MemoryCourtModel", name := "isKnown", desc := "(I)Z" } : Jvm.MethodName) prog_11_method_26_code (2 : Nat) (Option.some Jvm.ClassFile.FieldType.boolean)) ∈ lw_tbl := List.mem_of_getElem? (i := 1643) (by decide +kernel)
theorem tm_1644 : (Jvm.Cond.methodLink "MemoryCourtModel" (263 : Nat) ({ cls := "MemoryCourtModel", name := "canAppeal", desc := "(I)Z" } : Jvm.MethodName)) ∈ lw_tbl := List.mem_of_getElem? (i := 1644) (by decide +kernel)
theorem tm_1646 : (Jvm.Cond.instanceMethod ({ cls := "MemoryCourtModel", name := "canAppeal", desc := "(I)Z" } : Jvm.MethodName)) ∈ lw_tbl := List.mem_of_getElem? (i := 1646) (by decide +kernel)
theorem tms_69 : (Jvm.Cond.selects "MemoryCourtModel" ({ cls := "MemoryCourtModel", name := "canAppeal", desc := "(I)Z" } : Jvm.MethodName) ({ cls := "MemoryCourtModel", name := "canAppeal", desc := "(I)Z" } : Jvm.MethodName)) ∈ lw_tbl := List.mem_of_getElem? (i := 69) (by decide +kernel)
theorem tm_1647 : (Jvm.Cond.code ({ cls := "MemoryCourtModel", name := "canAppeal", desc := "(I)Z" } : Jvm.MethodName) prog_11_method_62_code (2 : Nat) (Option.some Jvm.ClassFile.FieldType.boolean)) ∈ lw_tbl := List.mem_of_getElem? (i := 1647) (by decide +kernel)
theorem tm_1652 : (Jvm.Cond.methodLink "MemoryCourtModel" (266 : Nat) ({ cls := "MemoryCourtModel", name := "lessBy", desc := "(I)I" } : Jvm.MethodName)) ∈ lw_tbl := List.mem_of_getElem? (i := 1652) (by decide +kernel)
theorem tm_1654 : (Jvm.Cond.instanceMethod ({ cls := "MemoryCourtModel", name := "lessBy", desc := "(I)I" } : Jvm.MethodName)) ∈ lw_tbl := List.mem_of_getElem? (i := 1654) (by decide +kernel)
theorem tms_71 : (Jvm.Cond.selects "MemoryCourtModel" ({ cls := "MemoryCourtModel", name := "lessBy", desc := "(I)I" } : Jvm.MethodName) ({ cls := "MemoryCourtModel", name := "lessBy", desc := "(I)I" } : Jvm.MethodName)) ∈ lw_tbl := List.mem_of_getElem? (i := 71) (by decide +kernel)
theorem tm_1655 : (Jvm.Cond.code ({ cls := "MemoryCourtModel", name := "lessBy", desc := "(I)I" } : Jvm.MethodName) prog_11_method_63_code (3 : Nat) (Option.some Jvm.ClassFile.FieldType.int)) ∈ lw_tbl := List.mem_of_getElem? (i := 1655) (by decide +kernel)
theorem tm_1675 : (Jvm.Cond.constantLong "MemoryCourtModel" (269 : Nat) (2 : Int64)) ∈ lw_tbl := List.mem_of_getElem? (i := 1675) (by decide +kernel)
theorem tm_1672 : (Jvm.Cond.methodLink "MemoryCourtModel" (271 : Nat) ({ cls := "MemoryCourtModel", name := "isOrder", desc := "(I)Z" } : Jvm.MethodName)) ∈ lw_tbl := List.mem_of_getElem? (i := 1672) (by decide +kernel)
theorem tm_1673 : (Jvm.Cond.static ({ cls := "MemoryCourtModel", name := "isOrder", desc := "(I)Z" } : Jvm.MethodName)) ∈ lw_tbl := List.mem_of_getElem? (i := 1673) (by decide +kernel)
theorem tm_1674 : (Jvm.Cond.code ({ cls := "MemoryCourtModel", name := "isOrder", desc := "(I)Z" } : Jvm.MethodName) prog_11_method_65_code (1 : Nat) (Option.some Jvm.ClassFile.FieldType.boolean)) ∈ lw_tbl := List.mem_of_getElem? (i := 1674) (by decide +kernel)
theorem tm_1680 : (Jvm.Cond.methodLink "MemoryCourtModel" (274 : Nat) ({ cls := "MemoryCourtModel", name := "openLoans", desc := "(Z)I" } : Jvm.MethodName)) ∈ lw_tbl := List.mem_of_getElem? (i := 1680) (by decide +kernel)
theorem tm_1682 : (Jvm.Cond.instanceMethod ({ cls := "MemoryCourtModel", name := "openLoans", desc := "(Z)I" } : Jvm.MethodName)) ∈ lw_tbl := List.mem_of_getElem? (i := 1682) (by decide +kernel)
theorem tms_75 : (Jvm.Cond.selects "MemoryCourtModel" ({ cls := "MemoryCourtModel", name := "openLoans", desc := "(Z)I" } : Jvm.MethodName) ({ cls := "MemoryCourtModel", name := "openLoans", desc := "(Z)I" } : Jvm.MethodName)) ∈ lw_tbl := List.mem_of_getElem? (i := 75) (by decide +kernel)
theorem tm_1683 : (Jvm.Cond.code ({ cls := "MemoryCourtModel", name := "openLoans", desc := "(Z)I" } : Jvm.MethodName) prog_11_method_67_code (4 : Nat) (Option.some Jvm.ClassFile.FieldType.int)) ∈ lw_tbl := List.mem_of_getElem? (i := 1683) (by decide +kernel)
theorem tm_1684 : (Jvm.Cond.methodLink "MemoryCourtModel" (278 : Nat) ({ cls := "MemoryCourtModel", name := "waitingMany", desc := "()I" } : Jvm.MethodName)) ∈ lw_tbl := List.mem_of_getElem? (i := 1684) (by decide +kernel)
theorem tm_1686 : (Jvm.Cond.instanceMethod ({ cls := "MemoryCourtModel", name := "waitingMany", desc := "()I" } : Jvm.MethodName)) ∈ lw_tbl := List.mem_of_getElem? (i := 1686) (by decide +kernel)
theorem tms_76 : (Jvm.Cond.selects "MemoryCourtModel" ({ cls := "MemoryCourtModel", name := "waitingMany", desc := "()I" } : Jvm.MethodName) ({ cls := "MemoryCourtModel", name := "waitingMany", desc := "()I" } : Jvm.MethodName)) ∈ lw_tbl := List.mem_of_getElem? (i := 76) (by decide +kernel)
theorem tm_1687 : (Jvm.Cond.code ({ cls := "MemoryCourtModel", name := "waitingMany", desc := "()I" } : Jvm.MethodName) prog_11_method_68_code (3 : Nat) (Option.some Jvm.ClassFile.FieldType.int)) ∈ lw_tbl := List.mem_of_getElem? (i := 1687) (by decide +kernel)
theorem tm_1693 : (Jvm.Cond.methodLink "MemoryCourtModel" (283 : Nat) ({ cls := "MemoryCourtModel", name := "pagesOfAll", desc := "(I)I" } : Jvm.MethodName)) ∈ lw_tbl := List.mem_of_getElem? (i := 1693) (by decide +kernel)
theorem tm_1695 : (Jvm.Cond.instanceMethod ({ cls := "MemoryCourtModel", name := "pagesOfAll", desc := "(I)I" } : Jvm.MethodName)) ∈ lw_tbl := List.mem_of_getElem? (i := 1695) (by decide +kernel)
theorem tms_77 : (Jvm.Cond.selects "MemoryCourtModel" ({ cls := "MemoryCourtModel", name := "pagesOfAll", desc := "(I)I" } : Jvm.MethodName) ({ cls := "MemoryCourtModel", name := "pagesOfAll", desc := "(I)I" } : Jvm.MethodName)) ∈ lw_tbl := List.mem_of_getElem? (i := 77) (by decide +kernel)
theorem tm_1696 : (Jvm.Cond.code ({ cls := "MemoryCourtModel", name := "pagesOfAll", desc := "(I)I" } : Jvm.MethodName) prog_11_method_70_code (4 : Nat) (Option.some Jvm.ClassFile.FieldType.int)) ∈ lw_tbl := List.mem_of_getElem? (i := 1696) (by decide +kernel)
theorem tm_1697 : (Jvm.Cond.methodLink "MemoryCourtModel" (286 : Nat) ({ cls := "MemoryCourtModel", name := "loansOf", desc := "(IZ)I" } : Jvm.MethodName)) ∈ lw_tbl := List.mem_of_getElem? (i := 1697) (by decide +kernel)
theorem tm_1699 : (Jvm.Cond.instanceMethod ({ cls := "MemoryCourtModel", name := "loansOf", desc := "(IZ)I" } : Jvm.MethodName)) ∈ lw_tbl := List.mem_of_getElem? (i := 1699) (by decide +kernel)
theorem tms_78 : (Jvm.Cond.selects "MemoryCourtModel" ({ cls := "MemoryCourtModel", name := "loansOf", desc := "(IZ)I" } : Jvm.MethodName) ({ cls := "MemoryCourtModel", name := "loansOf", desc := "(IZ)I" } : Jvm.MethodName)) ∈ lw_tbl := List.mem_of_getElem? (i := 78) (by decide +kernel)
theorem tm_1700 : (Jvm.Cond.code ({ cls := "MemoryCourtModel", name := "loansOf", desc := "(IZ)I" } : Jvm.MethodName) prog_11_method_71_code (5 : Nat) (Option.some Jvm.ClassFile.FieldType.int)) ∈ lw_tbl := List.mem_of_getElem? (i := 1700) (by decide +kernel)
theorem tm_1701 : (Jvm.Cond.methodLink "MemoryCourtModel" (290 : Nat) ({ cls := "MemoryCourtModel", name := "waitingOf", desc := "(I)I" } : Jvm.MethodName)) ∈ lw_tbl := List.mem_of_getElem? (i := 1701) (by decide +kernel)
theorem tm_1703 : (Jvm.Cond.instanceMethod ({ cls := "MemoryCourtModel", name := "waitingOf", desc := "(I)I" } : Jvm.MethodName)) ∈ lw_tbl := List.mem_of_getElem? (i := 1703) (by decide +kernel)
theorem tms_79 : (Jvm.Cond.selects "MemoryCourtModel" ({ cls := "MemoryCourtModel", name := "waitingOf", desc := "(I)I" } : Jvm.MethodName) ({ cls := "MemoryCourtModel", name := "waitingOf", desc := "(I)I" } : Jvm.MethodName)) ∈ lw_tbl := List.mem_of_getElem? (i := 79) (by decide +kernel)
theorem tm_1704 : (Jvm.Cond.code ({ cls := "MemoryCourtModel", name := "waitingOf", desc := "(I)I" } : Jvm.MethodName) prog_11_method_72_code (4 : Nat) (Option.some Jvm.ClassFile.FieldType.int)) ∈ lw_tbl := List.mem_of_getElem? (i := 1704) (by decide +kernel)
theorem tm_1692 : (Jvm.Cond.constantLong "MemoryCourtModel" (281 : Nat) (9 : Int64)) ∈ lw_tbl := List.mem_of_getElem? (i := 1692) (by decide +kernel)
theorem tm_1709 : (Jvm.Cond.constantLong "MemoryCourtModel" (293 : Nat) (7 : Int64)) ∈ lw_tbl := List.mem_of_getElem? (i := 1709) (by decide +kernel)
theorem tm_1730 : (Jvm.Cond.constantLong "MemoryCourtModel" (295 : Nat) (6 : Int64)) ∈ lw_tbl := List.mem_of_getElem? (i := 1730) (by decide +kernel)
theorem tm_1751 : (Jvm.Cond.methodLink "MemoryCourtModel" (297 : Nat) ({ cls := "MemoryCourtModel", name := "timeOfHearing", desc := "()I" } : Jvm.MethodName)) ∈ lw_tbl := List.mem_of_getElem? (i := 1751) (by decide +kernel)
theorem tm_1753 : (Jvm.Cond.instanceMethod ({ cls := "MemoryCourtModel", name := "timeOfHearing", desc := "()I" } : Jvm.MethodName)) ∈ lw_tbl := List.mem_of_getElem? (i := 1753) (by decide +kernel)
theorem tms_80 : (Jvm.Cond.selects "MemoryCourtModel" ({ cls := "MemoryCourtModel", name := "timeOfHearing", desc := "()I" } : Jvm.MethodName) ({ cls := "MemoryCourtModel", name := "timeOfHearing", desc := "()I" } : Jvm.MethodName)) ∈ lw_tbl := List.mem_of_getElem? (i := 80) (by decide +kernel)
theorem tm_1754 : (Jvm.Cond.code ({ cls := "MemoryCourtModel", name := "timeOfHearing", desc := "()I" } : Jvm.MethodName) prog_11_method_49_code (2 : Nat) (Option.some Jvm.ClassFile.FieldType.int)) ∈ lw_tbl := List.mem_of_getElem? (i := 1754) (by decide +kernel)
theorem bp_60 : (Int8.ofInt (60)).toInt32 = (60 : Int32) := by decide
theorem gf_X9_251 {p : Program} {l : Launch} {e : Env} {R : Room} {s : State} {m : MethodId} {args : Array Value} {below : List Frame} {meth : Method} {c : Code} {H : Heap} {locs : List Loc} {cells slots : Nat} {Q : State → Prop} {cc : ByteArray} {pc nL : Nat} {ls : Array Slot} {rest : List Value} {k : KT} {A : Nat → Prop} {ws : va_W} {H0 : Heap} {a : Nat} (E : E0 p s m c cc nL RX9 k A) (hW : WD k A H0 ws H locs) (q0 : Nat) {fs : List Value} (he : ws[q0]? = some (a, .inr (7, fs))) {v : Value} (hv : fs[7]? = some v) (hdg : decode cc pc = .ok (.getfield 251, 3)) (q : W p l e R s m args below meth c H locs cells slots Q (F0 m (pc + 3) ls (v :: rest))) : W p l e R s m args below meth c H locs cells slots Q (F0 m pc ls (.ref a :: rest)) := va_get (C := RX9) (T := TX9) (N := 41) (ci := 7) E.hx E.hb (Ts := wsX90) (fun w hw => E.w (inX9 w hw) (tbl_laysX9 w hw)) (fun _ h => h) E.ho E.hK hW.1 q0 he rfl 7 (by decide) (E.w tm_1325 rfl) (fun _ h => h) hv hdg q
theorem sl_X9_207 : SL RX9 207 yX9_areTicks cX9_areTicks 1 (some .boolean) 1 := ⟨⟨tm_1466, tm_1467, tm_119, tm_1468⟩, by decide +kernel⟩
theorem vl_X9_210 : VL RX9 210 RX9 yX9_may cX9_may 3 (some .boolean) 2 := ⟨⟨tm_1470, tm_1472, tms_37, tm_119, tm_1473⟩, by decide +kernel⟩
theorem vl_X9_214 : VL RX9 214 RX9 yX9_starts cX9_starts 1 none 0 := ⟨⟨tm_1474, tm_1476, tms_38, tm_119, tm_1477⟩, by decide +kernel⟩
theorem vl_X9_217 : VL RX9 217 RX9 yX9_goesOn cX9_goesOn 4 (some .int) 1 := ⟨⟨tm_1478, tm_1480, tms_39, tm_119, tm_1481⟩, by decide +kernel⟩
theorem vl_X9_220 : VL RX9 220 RX9 yX9_done cX9_done 3 (some .int) 1 := ⟨⟨tm_1588, tm_1590, tms_62, tm_119, tm_1591⟩, by decide +kernel⟩
theorem vl_X9_223 : VL RX9 223 RX9 yX9_isProcess cX9_isProcess 2 (some .boolean) 1 := ⟨⟨tm_1596, tm_1598, tms_63, tm_119, tm_1599⟩, by decide +kernel⟩
theorem sl_X9_228 : SL RX9 228 yX9_asks cX9_asks 6 (some .int) 4 := ⟨⟨tm_1601, tm_1602, tm_119, tm_1603⟩, by decide +kernel⟩
theorem vl_X9_232 : VL RX9 232 RX9 yX9_isClaim cX9_isClaim 2 (some .boolean) 1 := ⟨⟨tm_1608, tm_1610, tms_64, tm_119, tm_1611⟩, by decide +kernel⟩
theorem vl_X9_235 : VL RX9 235 RX9 yX9_isLoan cX9_isLoan 2 (some .boolean) 1 := ⟨⟨tm_1616, tm_1618, tms_65, tm_119, tm_1619⟩, by decide +kernel⟩
theorem vl_X9_238 : VL RX9 238 RX9 yX9_doOthersWait cX9_doOthersWait 3 (some .boolean) 1 := ⟨⟨tm_1628, tm_1630, tms_67, tm_119, tm_1631⟩, by decide +kernel⟩
theorem vl_X9_241 : VL RX9 241 RX9 yX9_canRenew cX9_canRenew 3 (some .boolean) 1 := ⟨⟨tm_1624, tm_1626, tms_66, tm_119, tm_1627⟩, by decide +kernel⟩
theorem vl_X9_244 : VL RX9 244 RX9 yX9_fine0 cX9_fine0 3 (some .int) 2 := ⟨⟨tm_1648, tm_1650, tms_70, tm_119, tm_1651⟩, by decide +kernel⟩
theorem vl_X9_247 : VL RX9 247 RX9 yX9_wasStalledIn cX9_wasStalledIn 3 (some .boolean) 2 := ⟨⟨tm_1664, tm_1666, tms_74, tm_119, tm_1667⟩, by decide +kernel⟩
theorem vl_X9_254 : VL RX9 254 RX9 yX9_lengthOf cX9_lengthOf 2 (some .int) 1 := ⟨⟨tm_1656, tm_1658, tms_72, tm_119, tm_1659⟩, by decide +kernel⟩
theorem vl_X9_257 : VL RX9 257 RX9 yX9_evidenceFor cX9_evidenceFor 4 (some .int) 1 := ⟨⟨tm_1660, tm_1662, tms_73, tm_119, tm_1663⟩, by decide +kernel⟩
theorem vl_X9_260 : VL RX9 260 RX9 yX9_isKnown cX9_isKnown 2 (some .boolean) 1 := ⟨⟨tm_1640, tm_1642, tms_68, tm_119, tm_1643⟩, by decide +kernel⟩
theorem vl_X9_263 : VL RX9 263 RX9 yX9_canAppeal cX9_canAppeal 2 (some .boolean) 1 := ⟨⟨tm_1644, tm_1646, tms_69, tm_119, tm_1647⟩, by decide +kernel⟩
theorem vl_X9_266 : VL RX9 266 RX9 yX9_lessBy cX9_lessBy 3 (some .int) 1 := ⟨⟨tm_1652, tm_1654, tms_71, tm_119, tm_1655⟩, by decide +kernel⟩
theorem sl_X9_271 : SL RX9 271 yX9_isOrder cX9_isOrder 1 (some .boolean) 1 := ⟨⟨tm_1672, tm_1673, tm_119, tm_1674⟩, by decide +kernel⟩
theorem vl_X9_274 : VL RX9 274 RX9 yX9_openLoans cX9_openLoans 4 (some .int) 1 := ⟨⟨tm_1680, tm_1682, tms_75, tm_119, tm_1683⟩, by decide +kernel⟩
theorem vl_X9_278 : VL RX9 278 RX9 yX9_waitingMany cX9_waitingMany 3 (some .int) 0 := ⟨⟨tm_1684, tm_1686, tms_76, tm_119, tm_1687⟩, by decide +kernel⟩
theorem vl_X9_283 : VL RX9 283 RX9 yX9_pagesOfAll cX9_pagesOfAll 4 (some .int) 1 := ⟨⟨tm_1693, tm_1695, tms_77, tm_119, tm_1696⟩, by decide +kernel⟩
theorem vl_X9_286 : VL RX9 286 RX9 yX9_loansOf cX9_loansOf 5 (some .int) 2 := ⟨⟨tm_1697, tm_1699, tms_78, tm_119, tm_1700⟩, by decide +kernel⟩
theorem vl_X9_290 : VL RX9 290 RX9 yX9_waitingOf cX9_waitingOf 4 (some .int) 1 := ⟨⟨tm_1701, tm_1703, tms_79, tm_119, tm_1704⟩, by decide +kernel⟩
theorem vl_X9_297 : VL RX9 297 RX9 yX9_timeOfHearing cX9_timeOfHearing 2 (some .int) 0 := ⟨⟨tm_1751, tm_1753, tms_80, tm_119, tm_1754⟩, by decide +kernel⟩
theorem dX9_run_0 : decode cX9_run 0 = .ok (.aload_n 0, 1) := by decide +kernel
theorem dX9_run_1 : decode cX9_run 1 = .ok (.iload_n 1, 1) := by decide +kernel
theorem dX9_run_2 : decode cX9_run 2 = .ok (.invokestatic 207, 3) := by decide +kernel
theorem dX9_run_5 : decode cX9_run 5 = .ok (.invokevirtual 77, 3) := by decide +kernel
theorem dX9_run_8 : decode cX9_run 8 = .ok (.ifCond .eq 30, 3) := by decide +kernel
theorem dX9_run_11 : decode cX9_run 11 = .ok (.aload_n 0, 1) := by decide +kernel
theorem dX9_run_12 : decode cX9_run 12 = .ok (.aload_n 0, 1) := by decide +kernel
theorem dX9_run_13 : decode cX9_run 13 = .ok (.getfield 13, 3) := by decide +kernel
theorem dX9_run_16 : decode cX9_run 16 = .ok (.iconst 0, 1) := by decide +kernel
theorem dX9_run_17 : decode cX9_run 17 = .ok (.iaload, 1) := by decide +kernel
theorem dX9_run_18 : decode cX9_run 18 = .ok (.iload_n 1, 1) := by decide +kernel
theorem dX9_run_19 : decode cX9_run 19 = .ok (.iadd, 1) := by decide +kernel
theorem dX9_run_20 : decode cX9_run 20 = .ok (.sipush 2000, 3) := by decide +kernel
theorem dX9_run_23 : decode cX9_run 23 = .ok (.if_icmp .gt 7, 3) := by decide +kernel
theorem dX9_run_26 : decode cX9_run 26 = .ok (.iconst 1, 1) := by decide +kernel
theorem dX9_run_27 : decode cX9_run 27 = .ok (.goto 4, 3) := by decide +kernel
theorem dX9_run_30 : decode cX9_run 30 = .ok (.iconst 0, 1) := by decide +kernel
theorem dX9_run_31 : decode cX9_run 31 = .ok (.iconst 2, 1) := by decide +kernel
theorem dX9_run_32 : decode cX9_run 32 = .ok (.invokevirtual 210, 3) := by decide +kernel
theorem dX9_run_35 : decode cX9_run 35 = .ok (.ifCond .ne 5, 3) := by decide +kernel
theorem dX9_run_38 : decode cX9_run 38 = .ok (.iconst 0, 1) := by decide +kernel
theorem dX9_run_39 : decode cX9_run 39 = .ok (.ireturn, 1) := by decide +kernel
theorem dX9_run_40 : decode cX9_run 40 = .ok (.aload_n 0, 1) := by decide +kernel
theorem dX9_run_41 : decode cX9_run 41 = .ok (.invokevirtual 214, 3) := by decide +kernel
theorem dX9_run_44 : decode cX9_run 44 = .ok (.aload_n 0, 1) := by decide +kernel
theorem dX9_run_45 : decode cX9_run 45 = .ok (.aload_n 0, 1) := by decide +kernel
theorem dX9_run_46 : decode cX9_run 46 = .ok (.iload_n 1, 1) := by decide +kernel
theorem dX9_run_47 : decode cX9_run 47 = .ok (.invokevirtual 217, 3) := by decide +kernel
theorem dX9_run_50 : decode cX9_run 50 = .ok (.invokevirtual 220, 3) := by decide +kernel
theorem dX9_run_53 : decode cX9_run 53 = .ok (.ireturn, 1) := by decide +kernel
theorem dX9_ask_0 : decode cX9_ask 0 = .ok (.aload_n 0, 1) := by decide +kernel
theorem dX9_ask_1 : decode cX9_ask 1 = .ok (.aload_n 0, 1) := by decide +kernel
theorem dX9_ask_2 : decode cX9_ask 2 = .ok (.iload_n 1, 1) := by decide +kernel
theorem dX9_ask_3 : decode cX9_ask 3 = .ok (.invokevirtual 223, 3) := by decide +kernel
theorem dX9_ask_6 : decode cX9_ask 6 = .ok (.invokevirtual 77, 3) := by decide +kernel
theorem dX9_ask_9 : decode cX9_ask 9 = .ok (.ifCond .eq 42, 3) := by decide +kernel
theorem dX9_ask_12 : decode cX9_ask 12 = .ok (.aload_n 0, 1) := by decide +kernel
theorem dX9_ask_13 : decode cX9_ask 13 = .ok (.iload_n 2, 1) := by decide +kernel
theorem dX9_ask_14 : decode cX9_ask 14 = .ok (.i2l, 1) := by decide +kernel
theorem dX9_ask_15 : decode cX9_ask 15 = .ok (.lconst 1, 1) := by decide +kernel
theorem dX9_ask_16 : decode cX9_ask 16 = .ok (.aload_n 0, 1) := by decide +kernel
theorem dX9_ask_17 : decode cX9_ask 17 = .ok (.getfield 100, 3) := by decide +kernel
theorem dX9_ask_20 : decode cX9_ask 20 = .ok (.i2l, 1) := by decide +kernel
theorem dX9_ask_21 : decode cX9_ask 21 = .ok (.invokestatic 92, 3) := by decide +kernel
theorem dX9_ask_24 : decode cX9_ask 24 = .ok (.ifCond .eq 19, 3) := by decide +kernel
theorem dX9_ask_27 : decode cX9_ask 27 = .ok (.iload_n 3, 1) := by decide +kernel
theorem dX9_ask_28 : decode cX9_ask 28 = .ok (.i2l, 1) := by decide +kernel
theorem dX9_ask_29 : decode cX9_ask 29 = .ok (.lconst 1, 1) := by decide +kernel
theorem dX9_ask_30 : decode cX9_ask 30 = .ok (.ldc2_w 226, 3) := by decide +kernel
theorem dX9_ask_33 : decode cX9_ask 33 = .ok (.invokestatic 92, 3) := by decide +kernel
theorem dX9_ask_36 : decode cX9_ask 36 = .ok (.ifCond .eq 7, 3) := by decide +kernel
theorem dX9_ask_39 : decode cX9_ask 39 = .ok (.iconst 1, 1) := by decide +kernel
theorem dX9_ask_40 : decode cX9_ask 40 = .ok (.goto 4, 3) := by decide +kernel
theorem dX9_ask_43 : decode cX9_ask 43 = .ok (.iconst 0, 1) := by decide +kernel
theorem dX9_ask_44 : decode cX9_ask 44 = .ok (.iconst 2, 1) := by decide +kernel
theorem dX9_ask_45 : decode cX9_ask 45 = .ok (.invokevirtual 210, 3) := by decide +kernel
theorem dX9_ask_48 : decode cX9_ask 48 = .ok (.ifCond .ne 5, 3) := by decide +kernel
theorem dX9_ask_51 : decode cX9_ask 51 = .ok (.iconst 0, 1) := by decide +kernel
theorem dX9_ask_52 : decode cX9_ask 52 = .ok (.ireturn, 1) := by decide +kernel
theorem dX9_ask_53 : decode cX9_ask 53 = .ok (.aload_n 0, 1) := by decide +kernel
theorem dX9_ask_54 : decode cX9_ask 54 = .ok (.aload_n 0, 1) := by decide +kernel
theorem dX9_ask_55 : decode cX9_ask 55 = .ok (.getfield 13, 3) := by decide +kernel
theorem dX9_ask_58 : decode cX9_ask 58 = .ok (.bipush 7, 2) := by decide +kernel
theorem dX9_ask_60 : decode cX9_ask 60 = .ok (.iaload, 1) := by decide +kernel
theorem dX9_ask_61 : decode cX9_ask 61 = .ok (.bipush 60, 2) := by decide +kernel
theorem dX9_ask_63 : decode cX9_ask 63 = .ok (.if_icmp .ge 7, 3) := by decide +kernel
theorem dX9_ask_66 : decode cX9_ask 66 = .ok (.iconst 1, 1) := by decide +kernel
theorem dX9_ask_67 : decode cX9_ask 67 = .ok (.goto 4, 3) := by decide +kernel
theorem dX9_ask_70 : decode cX9_ask 70 = .ok (.iconst 0, 1) := by decide +kernel
theorem dX9_ask_71 : decode cX9_ask 71 = .ok (.iconst 3, 1) := by decide +kernel
theorem dX9_ask_72 : decode cX9_ask 72 = .ok (.invokevirtual 210, 3) := by decide +kernel
theorem dX9_ask_75 : decode cX9_ask 75 = .ok (.ifCond .ne 5, 3) := by decide +kernel
theorem dX9_ask_78 : decode cX9_ask 78 = .ok (.iconst 0, 1) := by decide +kernel
theorem dX9_ask_79 : decode cX9_ask 79 = .ok (.ireturn, 1) := by decide +kernel
theorem dX9_ask_80 : decode cX9_ask 80 = .ok (.aload_n 0, 1) := by decide +kernel
theorem dX9_ask_81 : decode cX9_ask 81 = .ok (.invokevirtual 214, 3) := by decide +kernel
theorem dX9_ask_84 : decode cX9_ask 84 = .ok (.aload_n 0, 1) := by decide +kernel
theorem dX9_ask_85 : decode cX9_ask 85 = .ok (.aload_n 0, 1) := by decide +kernel
theorem dX9_ask_86 : decode cX9_ask 86 = .ok (.getfield 13, 3) := by decide +kernel
theorem dX9_ask_89 : decode cX9_ask 89 = .ok (.iload_n 1, 1) := by decide +kernel
theorem dX9_ask_90 : decode cX9_ask 90 = .ok (.iload_n 2, 1) := by decide +kernel
theorem dX9_ask_91 : decode cX9_ask 91 = .ok (.iload_n 3, 1) := by decide +kernel
theorem dX9_ask_92 : decode cX9_ask 92 = .ok (.invokestatic 228, 3) := by decide +kernel
theorem dX9_ask_95 : decode cX9_ask 95 = .ok (.invokevirtual 220, 3) := by decide +kernel
theorem dX9_ask_98 : decode cX9_ask 98 = .ok (.ireturn, 1) := by decide +kernel
theorem dX9_withdraw_0 : decode cX9_withdraw 0 = .ok (.aload_n 0, 1) := by decide +kernel
theorem dX9_withdraw_1 : decode cX9_withdraw 1 = .ok (.aload_n 0, 1) := by decide +kernel
theorem dX9_withdraw_2 : decode cX9_withdraw 2 = .ok (.iload_n 1, 1) := by decide +kernel
theorem dX9_withdraw_3 : decode cX9_withdraw 3 = .ok (.invokevirtual 232, 3) := by decide +kernel
theorem dX9_withdraw_6 : decode cX9_withdraw 6 = .ok (.invokevirtual 77, 3) := by decide +kernel
theorem dX9_withdraw_9 : decode cX9_withdraw 9 = .ok (.ifCond .eq 16, 3) := by decide +kernel
theorem dX9_withdraw_12 : decode cX9_withdraw 12 = .ok (.aload_n 0, 1) := by decide +kernel
theorem dX9_withdraw_13 : decode cX9_withdraw 13 = .ok (.aload_n 0, 1) := by decide +kernel
theorem dX9_withdraw_14 : decode cX9_withdraw 14 = .ok (.iload_n 1, 1) := by decide +kernel
theorem dX9_withdraw_15 : decode cX9_withdraw 15 = .ok (.invokevirtual 142, 3) := by decide +kernel
theorem dX9_withdraw_18 : decode cX9_withdraw 18 = .ok (.iconst 2, 1) := by decide +kernel
theorem dX9_withdraw_19 : decode cX9_withdraw 19 = .ok (.invokevirtual 210, 3) := by decide +kernel
theorem dX9_withdraw_22 : decode cX9_withdraw 22 = .ok (.ifCond .ne 5, 3) := by decide +kernel
theorem dX9_withdraw_25 : decode cX9_withdraw 25 = .ok (.iconst 0, 1) := by decide +kernel
theorem dX9_withdraw_26 : decode cX9_withdraw 26 = .ok (.ireturn, 1) := by decide +kernel
theorem dX9_withdraw_27 : decode cX9_withdraw 27 = .ok (.aload_n 0, 1) := by decide +kernel
theorem dX9_withdraw_28 : decode cX9_withdraw 28 = .ok (.invokevirtual 214, 3) := by decide +kernel
theorem dX9_withdraw_31 : decode cX9_withdraw 31 = .ok (.aload_n 0, 1) := by decide +kernel
theorem dX9_withdraw_32 : decode cX9_withdraw 32 = .ok (.getfield 13, 3) := by decide +kernel
theorem dX9_withdraw_35 : decode cX9_withdraw 35 = .ok (.sipush 602, 3) := by decide +kernel
theorem dX9_withdraw_38 : decode cX9_withdraw 38 = .ok (.bipush 7, 2) := by decide +kernel
theorem dX9_withdraw_40 : decode cX9_withdraw 40 = .ok (.iload_n 1, 1) := by decide +kernel
theorem dX9_withdraw_41 : decode cX9_withdraw 41 = .ok (.imul, 1) := by decide +kernel
theorem dX9_withdraw_42 : decode cX9_withdraw 42 = .ok (.iadd, 1) := by decide +kernel
theorem dX9_withdraw_43 : decode cX9_withdraw 43 = .ok (.iconst 3, 1) := by decide +kernel
theorem dX9_withdraw_44 : decode cX9_withdraw 44 = .ok (.iadd, 1) := by decide +kernel
theorem dX9_withdraw_45 : decode cX9_withdraw 45 = .ok (.iconst 3, 1) := by decide +kernel
theorem dX9_withdraw_46 : decode cX9_withdraw 46 = .ok (.iastore, 1) := by decide +kernel
theorem dX9_withdraw_47 : decode cX9_withdraw 47 = .ok (.aload_n 0, 1) := by decide +kernel
theorem dX9_withdraw_48 : decode cX9_withdraw 48 = .ok (.aload_n 0, 1) := by decide +kernel
theorem dX9_withdraw_49 : decode cX9_withdraw 49 = .ok (.iload_n 1, 1) := by decide +kernel
theorem dX9_withdraw_50 : decode cX9_withdraw 50 = .ok (.iconst 4, 1) := by decide +kernel
theorem dX9_withdraw_51 : decode cX9_withdraw 51 = .ok (.invokevirtual 139, 3) := by decide +kernel
theorem dX9_withdraw_54 : decode cX9_withdraw 54 = .ok (.invokevirtual 220, 3) := by decide +kernel
theorem dX9_withdraw_57 : decode cX9_withdraw 57 = .ok (.ireturn, 1) := by decide +kernel
theorem dX9_giveBack_0 : decode cX9_giveBack 0 = .ok (.aload_n 0, 1) := by decide +kernel
theorem dX9_giveBack_1 : decode cX9_giveBack 1 = .ok (.aload_n 0, 1) := by decide +kernel
theorem dX9_giveBack_2 : decode cX9_giveBack 2 = .ok (.iload_n 1, 1) := by decide +kernel
theorem dX9_giveBack_3 : decode cX9_giveBack 3 = .ok (.invokevirtual 235, 3) := by decide +kernel
theorem dX9_giveBack_6 : decode cX9_giveBack 6 = .ok (.invokevirtual 77, 3) := by decide +kernel
theorem dX9_giveBack_9 : decode cX9_giveBack 9 = .ok (.ifCond .eq 23, 3) := by decide +kernel
theorem dX9_giveBack_12 : decode cX9_giveBack 12 = .ok (.aload_n 0, 1) := by decide +kernel
theorem dX9_giveBack_13 : decode cX9_giveBack 13 = .ok (.iload_n 2, 1) := by decide +kernel
theorem dX9_giveBack_14 : decode cX9_giveBack 14 = .ok (.i2l, 1) := by decide +kernel
theorem dX9_giveBack_15 : decode cX9_giveBack 15 = .ok (.lconst 1, 1) := by decide +kernel
theorem dX9_giveBack_16 : decode cX9_giveBack 16 = .ok (.aload_n 0, 1) := by decide +kernel
theorem dX9_giveBack_17 : decode cX9_giveBack 17 = .ok (.iload_n 1, 1) := by decide +kernel
theorem dX9_giveBack_18 : decode cX9_giveBack 18 = .ok (.invokevirtual 103, 3) := by decide +kernel
theorem dX9_giveBack_21 : decode cX9_giveBack 21 = .ok (.i2l, 1) := by decide +kernel
theorem dX9_giveBack_22 : decode cX9_giveBack 22 = .ok (.invokestatic 92, 3) := by decide +kernel
theorem dX9_giveBack_25 : decode cX9_giveBack 25 = .ok (.iconst 2, 1) := by decide +kernel
theorem dX9_giveBack_26 : decode cX9_giveBack 26 = .ok (.invokevirtual 210, 3) := by decide +kernel
theorem dX9_giveBack_29 : decode cX9_giveBack 29 = .ok (.ifCond .ne 5, 3) := by decide +kernel
theorem dX9_giveBack_32 : decode cX9_giveBack 32 = .ok (.iconst 0, 1) := by decide +kernel
theorem dX9_giveBack_33 : decode cX9_giveBack 33 = .ok (.ireturn, 1) := by decide +kernel
theorem dX9_giveBack_34 : decode cX9_giveBack 34 = .ok (.aload_n 0, 1) := by decide +kernel
theorem dX9_giveBack_35 : decode cX9_giveBack 35 = .ok (.invokevirtual 214, 3) := by decide +kernel
theorem dX9_giveBack_38 : decode cX9_giveBack 38 = .ok (.aload_n 0, 1) := by decide +kernel
theorem dX9_giveBack_39 : decode cX9_giveBack 39 = .ok (.iload_n 1, 1) := by decide +kernel
theorem dX9_giveBack_40 : decode cX9_giveBack 40 = .ok (.iload_n 2, 1) := by decide +kernel
theorem dX9_giveBack_41 : decode cX9_giveBack 41 = .ok (.invokevirtual 155, 3) := by decide +kernel
theorem dX9_giveBack_44 : decode cX9_giveBack 44 = .ok (.aload_n 0, 1) := by decide +kernel
theorem dX9_giveBack_45 : decode cX9_giveBack 45 = .ok (.aload_n 0, 1) := by decide +kernel
theorem dX9_giveBack_46 : decode cX9_giveBack 46 = .ok (.iload_n 1, 1) := by decide +kernel
theorem dX9_giveBack_47 : decode cX9_giveBack 47 = .ok (.invokevirtual 103, 3) := by decide +kernel
theorem dX9_giveBack_50 : decode cX9_giveBack 50 = .ok (.invokevirtual 220, 3) := by decide +kernel
theorem dX9_giveBack_53 : decode cX9_giveBack 53 = .ok (.ireturn, 1) := by decide +kernel
theorem dX9_doOthersWait_0 : decode cX9_doOthersWait 0 = .ok (.iconst 0, 1) := by decide +kernel
theorem dX9_doOthersWait_1 : decode cX9_doOthersWait 1 = .ok (.istore_n 2, 1) := by decide +kernel
theorem dX9_doOthersWait_2 : decode cX9_doOthersWait 2 = .ok (.iload_n 2, 1) := by decide +kernel
theorem dX9_doOthersWait_3 : decode cX9_doOthersWait 3 = .ok (.aload_n 0, 1) := by decide +kernel
theorem dX9_doOthersWait_4 : decode cX9_doOthersWait 4 = .ok (.getfield 13, 3) := by decide +kernel
theorem dX9_doOthersWait_7 : decode cX9_doOthersWait 7 = .ok (.bipush 7, 2) := by decide +kernel
theorem dX9_doOthersWait_9 : decode cX9_doOthersWait 9 = .ok (.iaload, 1) := by decide +kernel
theorem dX9_doOthersWait_10 : decode cX9_doOthersWait 10 = .ok (.if_icmp .ge 29, 3) := by decide +kernel
theorem dX9_doOthersWait_13 : decode cX9_doOthersWait 13 = .ok (.aload_n 0, 1) := by decide +kernel
theorem dX9_doOthersWait_14 : decode cX9_doOthersWait 14 = .ok (.iload_n 2, 1) := by decide +kernel
theorem dX9_doOthersWait_15 : decode cX9_doOthersWait 15 = .ok (.invokevirtual 142, 3) := by decide +kernel
theorem dX9_doOthersWait_18 : decode cX9_doOthersWait 18 = .ok (.ifCond .eq 15, 3) := by decide +kernel
theorem dX9_doOthersWait_21 : decode cX9_doOthersWait 21 = .ok (.aload_n 0, 1) := by decide +kernel
theorem dX9_doOthersWait_22 : decode cX9_doOthersWait 22 = .ok (.iload_n 2, 1) := by decide +kernel
theorem dX9_doOthersWait_23 : decode cX9_doOthersWait 23 = .ok (.iconst 0, 1) := by decide +kernel
theorem dX9_doOthersWait_24 : decode cX9_doOthersWait 24 = .ok (.invokevirtual 139, 3) := by decide +kernel
theorem dX9_doOthersWait_27 : decode cX9_doOthersWait 27 = .ok (.iload_n 1, 1) := by decide +kernel
theorem dX9_doOthersWait_28 : decode cX9_doOthersWait 28 = .ok (.if_icmp .eq 5, 3) := by decide +kernel
theorem dX9_doOthersWait_31 : decode cX9_doOthersWait 31 = .ok (.iconst 1, 1) := by decide +kernel
theorem dX9_doOthersWait_32 : decode cX9_doOthersWait 32 = .ok (.ireturn, 1) := by decide +kernel
theorem dX9_doOthersWait_33 : decode cX9_doOthersWait 33 = .ok (.iinc 2 1, 3) := by decide +kernel
theorem dX9_doOthersWait_36 : decode cX9_doOthersWait 36 = .ok (.goto (-34), 3) := by decide +kernel
theorem dX9_doOthersWait_39 : decode cX9_doOthersWait 39 = .ok (.iconst 0, 1) := by decide +kernel
theorem dX9_doOthersWait_40 : decode cX9_doOthersWait 40 = .ok (.ireturn, 1) := by decide +kernel
theorem dX9_canRenew_0 : decode cX9_canRenew 0 = .ok (.aload_n 0, 1) := by decide +kernel
theorem dX9_canRenew_1 : decode cX9_canRenew 1 = .ok (.iload_n 1, 1) := by decide +kernel
theorem dX9_canRenew_2 : decode cX9_canRenew 2 = .ok (.iconst 0, 1) := by decide +kernel
theorem dX9_canRenew_3 : decode cX9_canRenew 3 = .ok (.invokevirtual 106, 3) := by decide +kernel
theorem dX9_canRenew_6 : decode cX9_canRenew 6 = .ok (.istore_n 2, 1) := by decide +kernel
theorem dX9_canRenew_7 : decode cX9_canRenew 7 = .ok (.aload_n 0, 1) := by decide +kernel
theorem dX9_canRenew_8 : decode cX9_canRenew 8 = .ok (.iload_n 1, 1) := by decide +kernel
theorem dX9_canRenew_9 : decode cX9_canRenew 9 = .ok (.invokevirtual 103, 3) := by decide +kernel
theorem dX9_canRenew_12 : decode cX9_canRenew 12 = .ok (.ifCond .le 32, 3) := by decide +kernel
theorem dX9_canRenew_15 : decode cX9_canRenew 15 = .ok (.aload_n 0, 1) := by decide +kernel
theorem dX9_canRenew_16 : decode cX9_canRenew 16 = .ok (.iload_n 1, 1) := by decide +kernel
theorem dX9_canRenew_17 : decode cX9_canRenew 17 = .ok (.invokevirtual 109, 3) := by decide +kernel
theorem dX9_canRenew_20 : decode cX9_canRenew 20 = .ok (.ifCond .ne 24, 3) := by decide +kernel
theorem dX9_canRenew_23 : decode cX9_canRenew 23 = .ok (.aload_n 0, 1) := by decide +kernel
theorem dX9_canRenew_24 : decode cX9_canRenew 24 = .ok (.iload_n 2, 1) := by decide +kernel
theorem dX9_canRenew_25 : decode cX9_canRenew 25 = .ok (.iconst 0, 1) := by decide +kernel
theorem dX9_canRenew_26 : decode cX9_canRenew 26 = .ok (.invokevirtual 120, 3) := by decide +kernel
theorem dX9_canRenew_29 : decode cX9_canRenew 29 = .ok (.ifCond .ne 15, 3) := by decide +kernel
theorem dX9_canRenew_32 : decode cX9_canRenew 32 = .ok (.aload_n 0, 1) := by decide +kernel
theorem dX9_canRenew_33 : decode cX9_canRenew 33 = .ok (.iload_n 2, 1) := by decide +kernel
theorem dX9_canRenew_34 : decode cX9_canRenew 34 = .ok (.invokevirtual 238, 3) := by decide +kernel
theorem dX9_canRenew_37 : decode cX9_canRenew 37 = .ok (.ifCond .ne 7, 3) := by decide +kernel
theorem dX9_canRenew_40 : decode cX9_canRenew 40 = .ok (.iconst 1, 1) := by decide +kernel
theorem dX9_canRenew_41 : decode cX9_canRenew 41 = .ok (.goto 4, 3) := by decide +kernel
theorem dX9_canRenew_44 : decode cX9_canRenew 44 = .ok (.iconst 0, 1) := by decide +kernel
theorem dX9_canRenew_45 : decode cX9_canRenew 45 = .ok (.ireturn, 1) := by decide +kernel
theorem dX9_renew_0 : decode cX9_renew 0 = .ok (.aload_n 0, 1) := by decide +kernel
theorem dX9_renew_1 : decode cX9_renew 1 = .ok (.aload_n 0, 1) := by decide +kernel
theorem dX9_renew_2 : decode cX9_renew 2 = .ok (.iload_n 1, 1) := by decide +kernel
theorem dX9_renew_3 : decode cX9_renew 3 = .ok (.invokevirtual 235, 3) := by decide +kernel
theorem dX9_renew_6 : decode cX9_renew 6 = .ok (.invokevirtual 77, 3) := by decide +kernel
theorem dX9_renew_9 : decode cX9_renew 9 = .ok (.ifCond .eq 33, 3) := by decide +kernel
theorem dX9_renew_12 : decode cX9_renew 12 = .ok (.aload_n 0, 1) := by decide +kernel
theorem dX9_renew_13 : decode cX9_renew 13 = .ok (.iload_n 2, 1) := by decide +kernel
theorem dX9_renew_14 : decode cX9_renew 14 = .ok (.i2l, 1) := by decide +kernel
theorem dX9_renew_15 : decode cX9_renew 15 = .ok (.lconst 1, 1) := by decide +kernel
theorem dX9_renew_16 : decode cX9_renew 16 = .ok (.ldc2_w 226, 3) := by decide +kernel
theorem dX9_renew_19 : decode cX9_renew 19 = .ok (.invokestatic 92, 3) := by decide +kernel
theorem dX9_renew_22 : decode cX9_renew 22 = .ok (.iconst 2, 1) := by decide +kernel
theorem dX9_renew_23 : decode cX9_renew 23 = .ok (.invokevirtual 210, 3) := by decide +kernel
theorem dX9_renew_26 : decode cX9_renew 26 = .ok (.ifCond .eq 16, 3) := by decide +kernel
theorem dX9_renew_29 : decode cX9_renew 29 = .ok (.aload_n 0, 1) := by decide +kernel
theorem dX9_renew_30 : decode cX9_renew 30 = .ok (.aload_n 0, 1) := by decide +kernel
theorem dX9_renew_31 : decode cX9_renew 31 = .ok (.iload_n 1, 1) := by decide +kernel
theorem dX9_renew_32 : decode cX9_renew 32 = .ok (.invokevirtual 241, 3) := by decide +kernel
theorem dX9_renew_35 : decode cX9_renew 35 = .ok (.iconst 3, 1) := by decide +kernel
theorem dX9_renew_36 : decode cX9_renew 36 = .ok (.invokevirtual 210, 3) := by decide +kernel
theorem dX9_renew_39 : decode cX9_renew 39 = .ok (.ifCond .ne 5, 3) := by decide +kernel
theorem dX9_renew_42 : decode cX9_renew 42 = .ok (.iconst 0, 1) := by decide +kernel
theorem dX9_renew_43 : decode cX9_renew 43 = .ok (.ireturn, 1) := by decide +kernel
theorem dX9_renew_44 : decode cX9_renew 44 = .ok (.aload_n 0, 1) := by decide +kernel
theorem dX9_renew_45 : decode cX9_renew 45 = .ok (.invokevirtual 214, 3) := by decide +kernel
theorem dX9_renew_48 : decode cX9_renew 48 = .ok (.bipush 58, 2) := by decide +kernel
theorem dX9_renew_50 : decode cX9_renew 50 = .ok (.bipush 6, 2) := by decide +kernel
theorem dX9_renew_52 : decode cX9_renew 52 = .ok (.iload_n 1, 1) := by decide +kernel
theorem dX9_renew_53 : decode cX9_renew 53 = .ok (.imul, 1) := by decide +kernel
theorem dX9_renew_54 : decode cX9_renew 54 = .ok (.iadd, 1) := by decide +kernel
theorem dX9_renew_55 : decode cX9_renew 55 = .ok (.iconst 1, 1) := by decide +kernel
theorem dX9_renew_56 : decode cX9_renew 56 = .ok (.iadd, 1) := by decide +kernel
theorem dX9_renew_57 : decode cX9_renew 57 = .ok (.istore_n 3, 1) := by decide +kernel
theorem dX9_renew_58 : decode cX9_renew 58 = .ok (.aload_n 0, 1) := by decide +kernel
theorem dX9_renew_59 : decode cX9_renew 59 = .ok (.getfield 13, 3) := by decide +kernel
theorem dX9_renew_62 : decode cX9_renew 62 = .ok (.iload_n 3, 1) := by decide +kernel
theorem dX9_renew_63 : decode cX9_renew 63 = .ok (.aload_n 0, 1) := by decide +kernel
theorem dX9_renew_64 : decode cX9_renew 64 = .ok (.getfield 13, 3) := by decide +kernel
theorem dX9_renew_67 : decode cX9_renew 67 = .ok (.iload_n 3, 1) := by decide +kernel
theorem dX9_renew_68 : decode cX9_renew 68 = .ok (.iaload, 1) := by decide +kernel
theorem dX9_renew_69 : decode cX9_renew 69 = .ok (.iload_n 2, 1) := by decide +kernel
theorem dX9_renew_70 : decode cX9_renew 70 = .ok (.iadd, 1) := by decide +kernel
theorem dX9_renew_71 : decode cX9_renew 71 = .ok (.iastore, 1) := by decide +kernel
theorem dX9_renew_72 : decode cX9_renew 72 = .ok (.aload_n 0, 1) := by decide +kernel
theorem dX9_renew_73 : decode cX9_renew 73 = .ok (.aload_n 0, 1) := by decide +kernel
theorem dX9_renew_74 : decode cX9_renew 74 = .ok (.getfield 13, 3) := by decide +kernel
theorem dX9_renew_77 : decode cX9_renew 77 = .ok (.iload_n 3, 1) := by decide +kernel
theorem dX9_renew_78 : decode cX9_renew 78 = .ok (.iaload, 1) := by decide +kernel
theorem dX9_renew_79 : decode cX9_renew 79 = .ok (.invokevirtual 220, 3) := by decide +kernel
theorem dX9_renew_82 : decode cX9_renew 82 = .ok (.ireturn, 1) := by decide +kernel
theorem dX9_stall_0 : decode cX9_stall 0 = .ok (.aload_n 0, 1) := by decide +kernel
theorem dX9_stall_1 : decode cX9_stall 1 = .ok (.aload_n 0, 1) := by decide +kernel
theorem dX9_stall_2 : decode cX9_stall 2 = .ok (.iload_n 1, 1) := by decide +kernel
theorem dX9_stall_3 : decode cX9_stall 3 = .ok (.invokevirtual 223, 3) := by decide +kernel
theorem dX9_stall_6 : decode cX9_stall 6 = .ok (.invokevirtual 77, 3) := by decide +kernel
theorem dX9_stall_9 : decode cX9_stall 9 = .ok (.ifCond .eq 20, 3) := by decide +kernel
theorem dX9_stall_12 : decode cX9_stall 12 = .ok (.aload_n 0, 1) := by decide +kernel
theorem dX9_stall_13 : decode cX9_stall 13 = .ok (.iload_n 2, 1) := by decide +kernel
theorem dX9_stall_14 : decode cX9_stall 14 = .ok (.i2l, 1) := by decide +kernel
theorem dX9_stall_15 : decode cX9_stall 15 = .ok (.lconst 0, 1) := by decide +kernel
theorem dX9_stall_16 : decode cX9_stall 16 = .ok (.ldc2_w 226, 3) := by decide +kernel
theorem dX9_stall_19 : decode cX9_stall 19 = .ok (.invokestatic 92, 3) := by decide +kernel
theorem dX9_stall_22 : decode cX9_stall 22 = .ok (.iconst 2, 1) := by decide +kernel
theorem dX9_stall_23 : decode cX9_stall 23 = .ok (.invokevirtual 210, 3) := by decide +kernel
theorem dX9_stall_26 : decode cX9_stall 26 = .ok (.ifCond .ne 5, 3) := by decide +kernel
theorem dX9_stall_29 : decode cX9_stall 29 = .ok (.iconst 0, 1) := by decide +kernel
theorem dX9_stall_30 : decode cX9_stall 30 = .ok (.ireturn, 1) := by decide +kernel
theorem dX9_stall_31 : decode cX9_stall 31 = .ok (.aload_n 0, 1) := by decide +kernel
theorem dX9_stall_32 : decode cX9_stall 32 = .ok (.invokevirtual 214, 3) := by decide +kernel
theorem dX9_stall_35 : decode cX9_stall 35 = .ok (.aload_n 0, 1) := by decide +kernel
theorem dX9_stall_36 : decode cX9_stall 36 = .ok (.iload_n 1, 1) := by decide +kernel
theorem dX9_stall_37 : decode cX9_stall 37 = .ok (.iconst 2, 1) := by decide +kernel
theorem dX9_stall_38 : decode cX9_stall 38 = .ok (.invokevirtual 120, 3) := by decide +kernel
theorem dX9_stall_41 : decode cX9_stall 41 = .ok (.istore_n 3, 1) := by decide +kernel
theorem dX9_stall_42 : decode cX9_stall 42 = .ok (.aload_n 0, 1) := by decide +kernel
theorem dX9_stall_43 : decode cX9_stall 43 = .ok (.iload_n 1, 1) := by decide +kernel
theorem dX9_stall_44 : decode cX9_stall 44 = .ok (.iconst 2, 1) := by decide +kernel
theorem dX9_stall_45 : decode cX9_stall 45 = .ok (.iload_n 2, 1) := by decide +kernel
theorem dX9_stall_46 : decode cX9_stall 46 = .ok (.invokevirtual 129, 3) := by decide +kernel
theorem dX9_stall_49 : decode cX9_stall 49 = .ok (.aload_n 0, 1) := by decide +kernel
theorem dX9_stall_50 : decode cX9_stall 50 = .ok (.iload_n 3, 1) := by decide +kernel
theorem dX9_stall_51 : decode cX9_stall 51 = .ok (.invokevirtual 220, 3) := by decide +kernel
theorem dX9_stall_54 : decode cX9_stall 54 = .ok (.ireturn, 1) := by decide +kernel
theorem dX9_wasStalledIn_0 : decode cX9_wasStalledIn 0 = .ok (.aload_n 0, 1) := by decide +kernel
theorem dX9_wasStalledIn_1 : decode cX9_wasStalledIn 1 = .ok (.getfield 13, 3) := by decide +kernel
theorem dX9_wasStalledIn_4 : decode cX9_wasStalledIn 4 = .ok (.iload_n 1, 1) := by decide +kernel
theorem dX9_wasStalledIn_5 : decode cX9_wasStalledIn 5 = .ok (.iload_n 2, 1) := by decide +kernel
theorem dX9_wasStalledIn_6 : decode cX9_wasStalledIn 6 = .ok (.invokestatic 199, 3) := by decide +kernel
theorem dX9_wasStalledIn_9 : decode cX9_wasStalledIn 9 = .ok (.iaload, 1) := by decide +kernel
theorem dX9_wasStalledIn_10 : decode cX9_wasStalledIn 10 = .ok (.iload_n 2, 1) := by decide +kernel
theorem dX9_wasStalledIn_11 : decode cX9_wasStalledIn 11 = .ok (.bipush 32, 2) := by decide +kernel
theorem dX9_wasStalledIn_13 : decode cX9_wasStalledIn 13 = .ok (.irem, 1) := by decide +kernel
theorem dX9_wasStalledIn_14 : decode cX9_wasStalledIn 14 = .ok (.ishr, 1) := by decide +kernel
theorem dX9_wasStalledIn_15 : decode cX9_wasStalledIn 15 = .ok (.iconst 1, 1) := by decide +kernel
theorem dX9_wasStalledIn_16 : decode cX9_wasStalledIn 16 = .ok (.iand, 1) := by decide +kernel
theorem dX9_wasStalledIn_17 : decode cX9_wasStalledIn 17 = .ok (.iconst 1, 1) := by decide +kernel
theorem dX9_wasStalledIn_18 : decode cX9_wasStalledIn 18 = .ok (.if_icmp .ne 7, 3) := by decide +kernel
theorem dX9_wasStalledIn_21 : decode cX9_wasStalledIn 21 = .ok (.iconst 1, 1) := by decide +kernel
theorem dX9_wasStalledIn_22 : decode cX9_wasStalledIn 22 = .ok (.goto 4, 3) := by decide +kernel
theorem dX9_wasStalledIn_25 : decode cX9_wasStalledIn 25 = .ok (.iconst 0, 1) := by decide +kernel
theorem dX9_wasStalledIn_26 : decode cX9_wasStalledIn 26 = .ok (.ireturn, 1) := by decide +kernel
theorem dX9_evidenceFor_0 : decode cX9_evidenceFor 0 = .ok (.iconst 0, 1) := by decide +kernel
theorem dX9_evidenceFor_1 : decode cX9_evidenceFor 1 = .ok (.istore_n 2, 1) := by decide +kernel
theorem dX9_evidenceFor_2 : decode cX9_evidenceFor 2 = .ok (.aload_n 0, 1) := by decide +kernel
theorem dX9_evidenceFor_3 : decode cX9_evidenceFor 3 = .ok (.iload_n 1, 1) := by decide +kernel
theorem dX9_evidenceFor_4 : decode cX9_evidenceFor 4 = .ok (.iconst 3, 1) := by decide +kernel
theorem dX9_evidenceFor_5 : decode cX9_evidenceFor 5 = .ok (.invokevirtual 244, 3) := by decide +kernel
theorem dX9_evidenceFor_8 : decode cX9_evidenceFor 8 = .ok (.iconst 1, 1) := by decide +kernel
theorem dX9_evidenceFor_9 : decode cX9_evidenceFor 9 = .ok (.iadd, 1) := by decide +kernel
theorem dX9_evidenceFor_10 : decode cX9_evidenceFor 10 = .ok (.istore_n 3, 1) := by decide +kernel
theorem dX9_evidenceFor_11 : decode cX9_evidenceFor 11 = .ok (.iload_n 3, 1) := by decide +kernel
theorem dX9_evidenceFor_12 : decode cX9_evidenceFor 12 = .ok (.aload_n 0, 1) := by decide +kernel
theorem dX9_evidenceFor_13 : decode cX9_evidenceFor 13 = .ok (.iload_n 1, 1) := by decide +kernel
theorem dX9_evidenceFor_14 : decode cX9_evidenceFor 14 = .ok (.iconst 4, 1) := by decide +kernel
theorem dX9_evidenceFor_15 : decode cX9_evidenceFor 15 = .ok (.invokevirtual 244, 3) := by decide +kernel
theorem dX9_evidenceFor_18 : decode cX9_evidenceFor 18 = .ok (.if_icmp .gt 27, 3) := by decide +kernel
theorem dX9_evidenceFor_21 : decode cX9_evidenceFor 21 = .ok (.aload_n 0, 1) := by decide +kernel
theorem dX9_evidenceFor_22 : decode cX9_evidenceFor 22 = .ok (.aload_n 0, 1) := by decide +kernel
theorem dX9_evidenceFor_23 : decode cX9_evidenceFor 23 = .ok (.iload_n 1, 1) := by decide +kernel
theorem dX9_evidenceFor_24 : decode cX9_evidenceFor 24 = .ok (.iconst 0, 1) := by decide +kernel
theorem dX9_evidenceFor_25 : decode cX9_evidenceFor 25 = .ok (.invokevirtual 244, 3) := by decide +kernel
theorem dX9_evidenceFor_28 : decode cX9_evidenceFor 28 = .ok (.iload_n 3, 1) := by decide +kernel
theorem dX9_evidenceFor_29 : decode cX9_evidenceFor 29 = .ok (.invokevirtual 247, 3) := by decide +kernel
theorem dX9_evidenceFor_32 : decode cX9_evidenceFor 32 = .ok (.ifCond .eq 7, 3) := by decide +kernel
theorem dX9_evidenceFor_35 : decode cX9_evidenceFor 35 = .ok (.iload_n 2, 1) := by decide +kernel
theorem dX9_evidenceFor_36 : decode cX9_evidenceFor 36 = .ok (.iconst 1, 1) := by decide +kernel
theorem dX9_evidenceFor_37 : decode cX9_evidenceFor 37 = .ok (.iadd, 1) := by decide +kernel
theorem dX9_evidenceFor_38 : decode cX9_evidenceFor 38 = .ok (.istore_n 2, 1) := by decide +kernel
theorem dX9_evidenceFor_39 : decode cX9_evidenceFor 39 = .ok (.iinc 3 1, 3) := by decide +kernel
theorem dX9_evidenceFor_42 : decode cX9_evidenceFor 42 = .ok (.goto (-31), 3) := by decide +kernel
theorem dX9_evidenceFor_45 : decode cX9_evidenceFor 45 = .ok (.iload_n 2, 1) := by decide +kernel
theorem dX9_evidenceFor_46 : decode cX9_evidenceFor 46 = .ok (.ireturn, 1) := by decide +kernel
theorem dX9_lengthOf_0 : decode cX9_lengthOf 0 = .ok (.aload_n 0, 1) := by decide +kernel
theorem dX9_lengthOf_1 : decode cX9_lengthOf 1 = .ok (.iload_n 1, 1) := by decide +kernel
theorem dX9_lengthOf_2 : decode cX9_lengthOf 2 = .ok (.iconst 4, 1) := by decide +kernel
theorem dX9_lengthOf_3 : decode cX9_lengthOf 3 = .ok (.invokevirtual 244, 3) := by decide +kernel
theorem dX9_lengthOf_6 : decode cX9_lengthOf 6 = .ok (.aload_n 0, 1) := by decide +kernel
theorem dX9_lengthOf_7 : decode cX9_lengthOf 7 = .ok (.iload_n 1, 1) := by decide +kernel
theorem dX9_lengthOf_8 : decode cX9_lengthOf 8 = .ok (.iconst 3, 1) := by decide +kernel
theorem dX9_lengthOf_9 : decode cX9_lengthOf 9 = .ok (.invokevirtual 244, 3) := by decide +kernel
theorem dX9_lengthOf_12 : decode cX9_lengthOf 12 = .ok (.isub, 1) := by decide +kernel
theorem dX9_lengthOf_13 : decode cX9_lengthOf 13 = .ok (.ireturn, 1) := by decide +kernel
theorem dX9_canAppeal_0 : decode cX9_canAppeal 0 = .ok (.aload_n 0, 1) := by decide +kernel
theorem dX9_canAppeal_1 : decode cX9_canAppeal 1 = .ok (.iload_n 1, 1) := by decide +kernel
theorem dX9_canAppeal_2 : decode cX9_canAppeal 2 = .ok (.bipush 6, 2) := by decide +kernel
theorem dX9_canAppeal_4 : decode cX9_canAppeal 4 = .ok (.invokevirtual 244, 3) := by decide +kernel
theorem dX9_canAppeal_7 : decode cX9_canAppeal 7 = .ok (.ifCond .ne 27, 3) := by decide +kernel
theorem dX9_canAppeal_10 : decode cX9_canAppeal 10 = .ok (.aload_n 0, 1) := by decide +kernel
theorem dX9_canAppeal_11 : decode cX9_canAppeal 11 = .ok (.getfield 13, 3) := by decide +kernel
theorem dX9_canAppeal_14 : decode cX9_canAppeal 14 = .ok (.iconst 0, 1) := by decide +kernel
theorem dX9_canAppeal_15 : decode cX9_canAppeal 15 = .ok (.iaload, 1) := by decide +kernel
theorem dX9_canAppeal_16 : decode cX9_canAppeal 16 = .ok (.aload_n 0, 1) := by decide +kernel
theorem dX9_canAppeal_17 : decode cX9_canAppeal 17 = .ok (.iload_n 1, 1) := by decide +kernel
theorem dX9_canAppeal_18 : decode cX9_canAppeal 18 = .ok (.iconst 4, 1) := by decide +kernel
theorem dX9_canAppeal_19 : decode cX9_canAppeal 19 = .ok (.invokevirtual 244, 3) := by decide +kernel
theorem dX9_canAppeal_22 : decode cX9_canAppeal 22 = .ok (.aload_n 0, 1) := by decide +kernel
theorem dX9_canAppeal_23 : decode cX9_canAppeal 23 = .ok (.getfield 251, 3) := by decide +kernel
theorem dX9_canAppeal_26 : decode cX9_canAppeal 26 = .ok (.iadd, 1) := by decide +kernel
theorem dX9_canAppeal_27 : decode cX9_canAppeal 27 = .ok (.if_icmp .gt 7, 3) := by decide +kernel
theorem dX9_canAppeal_30 : decode cX9_canAppeal 30 = .ok (.iconst 1, 1) := by decide +kernel
theorem dX9_canAppeal_31 : decode cX9_canAppeal 31 = .ok (.goto 4, 3) := by decide +kernel
theorem dX9_canAppeal_34 : decode cX9_canAppeal 34 = .ok (.iconst 0, 1) := by decide +kernel
theorem dX9_canAppeal_35 : decode cX9_canAppeal 35 = .ok (.ireturn, 1) := by decide +kernel
theorem dX9_lessBy_0 : decode cX9_lessBy 0 = .ok (.aload_n 0, 1) := by decide +kernel
theorem dX9_lessBy_1 : decode cX9_lessBy 1 = .ok (.iload_n 1, 1) := by decide +kernel
theorem dX9_lessBy_2 : decode cX9_lessBy 2 = .ok (.iconst 5, 1) := by decide +kernel
theorem dX9_lessBy_3 : decode cX9_lessBy 3 = .ok (.invokevirtual 244, 3) := by decide +kernel
theorem dX9_lessBy_6 : decode cX9_lessBy 6 = .ok (.istore_n 2, 1) := by decide +kernel
theorem dX9_lessBy_7 : decode cX9_lessBy 7 = .ok (.iload_n 2, 1) := by decide +kernel
theorem dX9_lessBy_8 : decode cX9_lessBy 8 = .ok (.iload_n 2, 1) := by decide +kernel
theorem dX9_lessBy_9 : decode cX9_lessBy 9 = .ok (.aload_n 0, 1) := by decide +kernel
theorem dX9_lessBy_10 : decode cX9_lessBy 10 = .ok (.iload_n 1, 1) := by decide +kernel
theorem dX9_lessBy_11 : decode cX9_lessBy 11 = .ok (.invokevirtual 254, 3) := by decide +kernel
theorem dX9_lessBy_14 : decode cX9_lessBy 14 = .ok (.aload_n 0, 1) := by decide +kernel
theorem dX9_lessBy_15 : decode cX9_lessBy 15 = .ok (.iload_n 1, 1) := by decide +kernel
theorem dX9_lessBy_16 : decode cX9_lessBy 16 = .ok (.invokevirtual 257, 3) := by decide +kernel
theorem dX9_lessBy_19 : decode cX9_lessBy 19 = .ok (.isub, 1) := by decide +kernel
theorem dX9_lessBy_20 : decode cX9_lessBy 20 = .ok (.imul, 1) := by decide +kernel
theorem dX9_lessBy_21 : decode cX9_lessBy 21 = .ok (.aload_n 0, 1) := by decide +kernel
theorem dX9_lessBy_22 : decode cX9_lessBy 22 = .ok (.iload_n 1, 1) := by decide +kernel
theorem dX9_lessBy_23 : decode cX9_lessBy 23 = .ok (.invokevirtual 254, 3) := by decide +kernel
theorem dX9_lessBy_26 : decode cX9_lessBy 26 = .ok (.invokestatic 123, 3) := by decide +kernel
theorem dX9_lessBy_29 : decode cX9_lessBy 29 = .ok (.isub, 1) := by decide +kernel
theorem dX9_lessBy_30 : decode cX9_lessBy 30 = .ok (.ireturn, 1) := by decide +kernel
theorem dX9_appeal_0 : decode cX9_appeal 0 = .ok (.aload_n 0, 1) := by decide +kernel
theorem dX9_appeal_1 : decode cX9_appeal 1 = .ok (.aload_n 0, 1) := by decide +kernel
theorem dX9_appeal_2 : decode cX9_appeal 2 = .ok (.iload_n 1, 1) := by decide +kernel
theorem dX9_appeal_3 : decode cX9_appeal 3 = .ok (.invokevirtual 260, 3) := by decide +kernel
theorem dX9_appeal_6 : decode cX9_appeal 6 = .ok (.iconst 2, 1) := by decide +kernel
theorem dX9_appeal_7 : decode cX9_appeal 7 = .ok (.invokevirtual 210, 3) := by decide +kernel
theorem dX9_appeal_10 : decode cX9_appeal 10 = .ok (.ifCond .eq 16, 3) := by decide +kernel
theorem dX9_appeal_13 : decode cX9_appeal 13 = .ok (.aload_n 0, 1) := by decide +kernel
theorem dX9_appeal_14 : decode cX9_appeal 14 = .ok (.aload_n 0, 1) := by decide +kernel
theorem dX9_appeal_15 : decode cX9_appeal 15 = .ok (.iload_n 1, 1) := by decide +kernel
theorem dX9_appeal_16 : decode cX9_appeal 16 = .ok (.invokevirtual 263, 3) := by decide +kernel
theorem dX9_appeal_19 : decode cX9_appeal 19 = .ok (.iconst 1, 1) := by decide +kernel
theorem dX9_appeal_20 : decode cX9_appeal 20 = .ok (.invokevirtual 210, 3) := by decide +kernel
theorem dX9_appeal_23 : decode cX9_appeal 23 = .ok (.ifCond .ne 5, 3) := by decide +kernel
theorem dX9_appeal_26 : decode cX9_appeal 26 = .ok (.iconst 0, 1) := by decide +kernel
theorem dX9_appeal_27 : decode cX9_appeal 27 = .ok (.ireturn, 1) := by decide +kernel
theorem dX9_appeal_28 : decode cX9_appeal 28 = .ok (.aload_n 0, 1) := by decide +kernel
theorem dX9_appeal_29 : decode cX9_appeal 29 = .ok (.invokevirtual 214, 3) := by decide +kernel
theorem dX9_appeal_32 : decode cX9_appeal 32 = .ok (.aload_n 0, 1) := by decide +kernel
theorem dX9_appeal_33 : decode cX9_appeal 33 = .ok (.iload_n 1, 1) := by decide +kernel
theorem dX9_appeal_34 : decode cX9_appeal 34 = .ok (.iconst 0, 1) := by decide +kernel
theorem dX9_appeal_35 : decode cX9_appeal 35 = .ok (.invokevirtual 244, 3) := by decide +kernel
theorem dX9_appeal_38 : decode cX9_appeal 38 = .ok (.istore_n 2, 1) := by decide +kernel
theorem dX9_appeal_39 : decode cX9_appeal 39 = .ok (.aload_n 0, 1) := by decide +kernel
theorem dX9_appeal_40 : decode cX9_appeal 40 = .ok (.iload_n 1, 1) := by decide +kernel
theorem dX9_appeal_41 : decode cX9_appeal 41 = .ok (.invokevirtual 266, 3) := by decide +kernel
theorem dX9_appeal_44 : decode cX9_appeal 44 = .ok (.istore_n 3, 1) := by decide +kernel
theorem dX9_appeal_45 : decode cX9_appeal 45 = .ok (.aload_n 0, 1) := by decide +kernel
theorem dX9_appeal_46 : decode cX9_appeal 46 = .ok (.iload_n 1, 1) := by decide +kernel
theorem dX9_appeal_47 : decode cX9_appeal 47 = .ok (.iconst 2, 1) := by decide +kernel
theorem dX9_appeal_48 : decode cX9_appeal 48 = .ok (.invokevirtual 244, 3) := by decide +kernel
theorem dX9_appeal_51 : decode cX9_appeal 51 = .ok (.aload_n 0, 1) := by decide +kernel
theorem dX9_appeal_52 : decode cX9_appeal 52 = .ok (.iload_n 1, 1) := by decide +kernel
theorem dX9_appeal_53 : decode cX9_appeal 53 = .ok (.invokevirtual 257, 3) := by decide +kernel
theorem dX9_appeal_56 : decode cX9_appeal 56 = .ok (.imul, 1) := by decide +kernel
theorem dX9_appeal_57 : decode cX9_appeal 57 = .ok (.aload_n 0, 1) := by decide +kernel
theorem dX9_appeal_58 : decode cX9_appeal 58 = .ok (.iload_n 1, 1) := by decide +kernel
theorem dX9_appeal_59 : decode cX9_appeal 59 = .ok (.invokevirtual 254, 3) := by decide +kernel
theorem dX9_appeal_62 : decode cX9_appeal 62 = .ok (.idiv, 1) := by decide +kernel
theorem dX9_appeal_63 : decode cX9_appeal 63 = .ok (.istore 4, 2) := by decide +kernel
theorem dX9_appeal_65 : decode cX9_appeal 65 = .ok (.aload_n 0, 1) := by decide +kernel
theorem dX9_appeal_66 : decode cX9_appeal 66 = .ok (.getfield 13, 3) := by decide +kernel
theorem dX9_appeal_69 : decode cX9_appeal 69 = .ok (.iload_n 1, 1) := by decide +kernel
theorem dX9_appeal_70 : decode cX9_appeal 70 = .ok (.invokestatic 85, 3) := by decide +kernel
theorem dX9_appeal_73 : decode cX9_appeal 73 = .ok (.iconst 5, 1) := by decide +kernel
theorem dX9_appeal_74 : decode cX9_appeal 74 = .ok (.iadd, 1) := by decide +kernel
theorem dX9_appeal_75 : decode cX9_appeal 75 = .ok (.aload_n 0, 1) := by decide +kernel
theorem dX9_appeal_76 : decode cX9_appeal 76 = .ok (.iload_n 1, 1) := by decide +kernel
theorem dX9_appeal_77 : decode cX9_appeal 77 = .ok (.iconst 5, 1) := by decide +kernel
theorem dX9_appeal_78 : decode cX9_appeal 78 = .ok (.invokevirtual 244, 3) := by decide +kernel
theorem dX9_appeal_81 : decode cX9_appeal 81 = .ok (.iload_n 3, 1) := by decide +kernel
theorem dX9_appeal_82 : decode cX9_appeal 82 = .ok (.isub, 1) := by decide +kernel
theorem dX9_appeal_83 : decode cX9_appeal 83 = .ok (.iastore, 1) := by decide +kernel
theorem dX9_appeal_84 : decode cX9_appeal 84 = .ok (.aload_n 0, 1) := by decide +kernel
theorem dX9_appeal_85 : decode cX9_appeal 85 = .ok (.getfield 13, 3) := by decide +kernel
theorem dX9_appeal_88 : decode cX9_appeal 88 = .ok (.iload_n 1, 1) := by decide +kernel
theorem dX9_appeal_89 : decode cX9_appeal 89 = .ok (.invokestatic 85, 3) := by decide +kernel
theorem dX9_appeal_92 : decode cX9_appeal 92 = .ok (.bipush 6, 2) := by decide +kernel
theorem dX9_appeal_94 : decode cX9_appeal 94 = .ok (.iadd, 1) := by decide +kernel
theorem dX9_appeal_95 : decode cX9_appeal 95 = .ok (.iconst 1, 1) := by decide +kernel
theorem dX9_appeal_96 : decode cX9_appeal 96 = .ok (.iastore, 1) := by decide +kernel
theorem dX9_appeal_97 : decode cX9_appeal 97 = .ok (.aload_n 0, 1) := by decide +kernel
theorem dX9_appeal_98 : decode cX9_appeal 98 = .ok (.iload_n 2, 1) := by decide +kernel
theorem dX9_appeal_99 : decode cX9_appeal 99 = .ok (.iconst 1, 1) := by decide +kernel
theorem dX9_appeal_100 : decode cX9_appeal 100 = .ok (.iconst 0, 1) := by decide +kernel
theorem dX9_appeal_101 : decode cX9_appeal 101 = .ok (.aload_n 0, 1) := by decide +kernel
theorem dX9_appeal_102 : decode cX9_appeal 102 = .ok (.iload_n 2, 1) := by decide +kernel
theorem dX9_appeal_103 : decode cX9_appeal 103 = .ok (.iconst 1, 1) := by decide +kernel
theorem dX9_appeal_104 : decode cX9_appeal 104 = .ok (.invokevirtual 120, 3) := by decide +kernel
theorem dX9_appeal_107 : decode cX9_appeal 107 = .ok (.iload_n 3, 1) := by decide +kernel
theorem dX9_appeal_108 : decode cX9_appeal 108 = .ok (.isub, 1) := by decide +kernel
theorem dX9_appeal_109 : decode cX9_appeal 109 = .ok (.invokestatic 96, 3) := by decide +kernel
theorem dX9_appeal_112 : decode cX9_appeal 112 = .ok (.invokevirtual 129, 3) := by decide +kernel
theorem dX9_appeal_115 : decode cX9_appeal 115 = .ok (.aload_n 0, 1) := by decide +kernel
theorem dX9_appeal_116 : decode cX9_appeal 116 = .ok (.iload_n 2, 1) := by decide +kernel
theorem dX9_appeal_117 : decode cX9_appeal 117 = .ok (.iconst 0, 1) := by decide +kernel
theorem dX9_appeal_118 : decode cX9_appeal 118 = .ok (.iconst 0, 1) := by decide +kernel
theorem dX9_appeal_119 : decode cX9_appeal 119 = .ok (.aload_n 0, 1) := by decide +kernel
theorem dX9_appeal_120 : decode cX9_appeal 120 = .ok (.iload_n 2, 1) := by decide +kernel
theorem dX9_appeal_121 : decode cX9_appeal 121 = .ok (.iconst 0, 1) := by decide +kernel
theorem dX9_appeal_122 : decode cX9_appeal 122 = .ok (.invokevirtual 120, 3) := by decide +kernel
theorem dX9_appeal_125 : decode cX9_appeal 125 = .ok (.iload 4, 2) := by decide +kernel
theorem dX9_appeal_127 : decode cX9_appeal 127 = .ok (.isub, 1) := by decide +kernel
theorem dX9_appeal_128 : decode cX9_appeal 128 = .ok (.invokestatic 96, 3) := by decide +kernel
theorem dX9_appeal_131 : decode cX9_appeal 131 = .ok (.invokevirtual 129, 3) := by decide +kernel
theorem dX9_appeal_134 : decode cX9_appeal 134 = .ok (.aload_n 0, 1) := by decide +kernel
theorem dX9_appeal_135 : decode cX9_appeal 135 = .ok (.iload_n 3, 1) := by decide +kernel
theorem dX9_appeal_136 : decode cX9_appeal 136 = .ok (.invokevirtual 220, 3) := by decide +kernel
theorem dX9_appeal_139 : decode cX9_appeal 139 = .ok (.ireturn, 1) := by decide +kernel
theorem dX9_isOrder_0 : decode cX9_isOrder 0 = .ok (.iload_n 0, 1) := by decide +kernel
theorem dX9_isOrder_1 : decode cX9_isOrder 1 = .ok (.i2l, 1) := by decide +kernel
theorem dX9_isOrder_2 : decode cX9_isOrder 2 = .ok (.lconst 0, 1) := by decide +kernel
theorem dX9_isOrder_3 : decode cX9_isOrder 3 = .ok (.ldc2_w 269, 3) := by decide +kernel
theorem dX9_isOrder_6 : decode cX9_isOrder 6 = .ok (.invokestatic 92, 3) := by decide +kernel
theorem dX9_isOrder_9 : decode cX9_isOrder 9 = .ok (.ireturn, 1) := by decide +kernel
theorem dX9_setOrder_0 : decode cX9_setOrder 0 = .ok (.aload_n 0, 1) := by decide +kernel
theorem dX9_setOrder_1 : decode cX9_setOrder 1 = .ok (.iload_n 1, 1) := by decide +kernel
theorem dX9_setOrder_2 : decode cX9_setOrder 2 = .ok (.invokestatic 271, 3) := by decide +kernel
theorem dX9_setOrder_5 : decode cX9_setOrder 5 = .ok (.invokevirtual 77, 3) := by decide +kernel
theorem dX9_setOrder_8 : decode cX9_setOrder 8 = .ok (.ifCond .ne 5, 3) := by decide +kernel
theorem dX9_setOrder_11 : decode cX9_setOrder 11 = .ok (.iconst 0, 1) := by decide +kernel
theorem dX9_setOrder_12 : decode cX9_setOrder 12 = .ok (.ireturn, 1) := by decide +kernel
theorem dX9_setOrder_13 : decode cX9_setOrder 13 = .ok (.aload_n 0, 1) := by decide +kernel
theorem dX9_setOrder_14 : decode cX9_setOrder 14 = .ok (.invokevirtual 214, 3) := by decide +kernel
theorem dX9_setOrder_17 : decode cX9_setOrder 17 = .ok (.aload_n 0, 1) := by decide +kernel
theorem dX9_setOrder_18 : decode cX9_setOrder 18 = .ok (.getfield 13, 3) := by decide +kernel
theorem dX9_setOrder_21 : decode cX9_setOrder 21 = .ok (.iconst 1, 1) := by decide +kernel
theorem dX9_setOrder_22 : decode cX9_setOrder 22 = .ok (.iaload, 1) := by decide +kernel
theorem dX9_setOrder_23 : decode cX9_setOrder 23 = .ok (.istore_n 2, 1) := by decide +kernel
theorem dX9_setOrder_24 : decode cX9_setOrder 24 = .ok (.aload_n 0, 1) := by decide +kernel
theorem dX9_setOrder_25 : decode cX9_setOrder 25 = .ok (.getfield 13, 3) := by decide +kernel
theorem dX9_setOrder_28 : decode cX9_setOrder 28 = .ok (.iconst 1, 1) := by decide +kernel
theorem dX9_setOrder_29 : decode cX9_setOrder 29 = .ok (.iload_n 1, 1) := by decide +kernel
theorem dX9_setOrder_30 : decode cX9_setOrder 30 = .ok (.iastore, 1) := by decide +kernel
theorem dX9_setOrder_31 : decode cX9_setOrder 31 = .ok (.aload_n 0, 1) := by decide +kernel
theorem dX9_setOrder_32 : decode cX9_setOrder 32 = .ok (.iload_n 2, 1) := by decide +kernel
theorem dX9_setOrder_33 : decode cX9_setOrder 33 = .ok (.invokevirtual 220, 3) := by decide +kernel
theorem dX9_setOrder_36 : decode cX9_setOrder 36 = .ok (.ireturn, 1) := by decide +kernel
theorem dX9_openLoans_0 : decode cX9_openLoans 0 = .ok (.iconst 0, 1) := by decide +kernel
theorem dX9_openLoans_1 : decode cX9_openLoans 1 = .ok (.istore_n 2, 1) := by decide +kernel
theorem dX9_openLoans_2 : decode cX9_openLoans 2 = .ok (.iconst 0, 1) := by decide +kernel
theorem dX9_openLoans_3 : decode cX9_openLoans 3 = .ok (.istore_n 3, 1) := by decide +kernel
theorem dX9_openLoans_4 : decode cX9_openLoans 4 = .ok (.iload_n 3, 1) := by decide +kernel
theorem dX9_openLoans_5 : decode cX9_openLoans 5 = .ok (.aload_n 0, 1) := by decide +kernel
theorem dX9_openLoans_6 : decode cX9_openLoans 6 = .ok (.getfield 13, 3) := by decide +kernel
theorem dX9_openLoans_9 : decode cX9_openLoans 9 = .ok (.bipush 6, 2) := by decide +kernel
theorem dX9_openLoans_11 : decode cX9_openLoans 11 = .ok (.iaload, 1) := by decide +kernel
theorem dX9_openLoans_12 : decode cX9_openLoans 12 = .ok (.if_icmp .ge 36, 3) := by decide +kernel
theorem dX9_openLoans_15 : decode cX9_openLoans 15 = .ok (.iload_n 1, 1) := by decide +kernel
theorem dX9_openLoans_16 : decode cX9_openLoans 16 = .ok (.ifCond .eq 14, 3) := by decide +kernel
theorem dX9_openLoans_19 : decode cX9_openLoans 19 = .ok (.aload_n 0, 1) := by decide +kernel
theorem dX9_openLoans_20 : decode cX9_openLoans 20 = .ok (.iload_n 3, 1) := by decide +kernel
theorem dX9_openLoans_21 : decode cX9_openLoans 21 = .ok (.invokevirtual 109, 3) := by decide +kernel
theorem dX9_openLoans_24 : decode cX9_openLoans 24 = .ok (.ifCond .eq 18, 3) := by decide +kernel
theorem dX9_openLoans_27 : decode cX9_openLoans 27 = .ok (.goto 11, 3) := by decide +kernel
theorem dX9_openLoans_30 : decode cX9_openLoans 30 = .ok (.aload_n 0, 1) := by decide +kernel
theorem dX9_openLoans_31 : decode cX9_openLoans 31 = .ok (.iload_n 3, 1) := by decide +kernel
theorem dX9_openLoans_32 : decode cX9_openLoans 32 = .ok (.invokevirtual 103, 3) := by decide +kernel
theorem dX9_openLoans_35 : decode cX9_openLoans 35 = .ok (.ifCond .le 7, 3) := by decide +kernel
theorem dX9_openLoans_38 : decode cX9_openLoans 38 = .ok (.iload_n 2, 1) := by decide +kernel
theorem dX9_openLoans_39 : decode cX9_openLoans 39 = .ok (.iconst 1, 1) := by decide +kernel
theorem dX9_openLoans_40 : decode cX9_openLoans 40 = .ok (.iadd, 1) := by decide +kernel
theorem dX9_openLoans_41 : decode cX9_openLoans 41 = .ok (.istore_n 2, 1) := by decide +kernel
theorem dX9_openLoans_42 : decode cX9_openLoans 42 = .ok (.iinc 3 1, 3) := by decide +kernel
theorem dX9_openLoans_45 : decode cX9_openLoans 45 = .ok (.goto (-41), 3) := by decide +kernel
theorem dX9_openLoans_48 : decode cX9_openLoans 48 = .ok (.iload_n 2, 1) := by decide +kernel
theorem dX9_openLoans_49 : decode cX9_openLoans 49 = .ok (.ireturn, 1) := by decide +kernel
theorem dX9_waitingMany_0 : decode cX9_waitingMany 0 = .ok (.iconst 0, 1) := by decide +kernel
theorem dX9_waitingMany_1 : decode cX9_waitingMany 1 = .ok (.istore_n 1, 1) := by decide +kernel
theorem dX9_waitingMany_2 : decode cX9_waitingMany 2 = .ok (.iconst 0, 1) := by decide +kernel
theorem dX9_waitingMany_3 : decode cX9_waitingMany 3 = .ok (.istore_n 2, 1) := by decide +kernel
theorem dX9_waitingMany_4 : decode cX9_waitingMany 4 = .ok (.iload_n 2, 1) := by decide +kernel
theorem dX9_waitingMany_5 : decode cX9_waitingMany 5 = .ok (.aload_n 0, 1) := by decide +kernel
theorem dX9_waitingMany_6 : decode cX9_waitingMany 6 = .ok (.getfield 13, 3) := by decide +kernel
theorem dX9_waitingMany_9 : decode cX9_waitingMany 9 = .ok (.bipush 7, 2) := by decide +kernel
theorem dX9_waitingMany_11 : decode cX9_waitingMany 11 = .ok (.iaload, 1) := by decide +kernel
theorem dX9_waitingMany_12 : decode cX9_waitingMany 12 = .ok (.if_icmp .ge 21, 3) := by decide +kernel
theorem dX9_waitingMany_15 : decode cX9_waitingMany 15 = .ok (.aload_n 0, 1) := by decide +kernel
theorem dX9_waitingMany_16 : decode cX9_waitingMany 16 = .ok (.iload_n 2, 1) := by decide +kernel
theorem dX9_waitingMany_17 : decode cX9_waitingMany 17 = .ok (.invokevirtual 142, 3) := by decide +kernel
theorem dX9_waitingMany_20 : decode cX9_waitingMany 20 = .ok (.ifCond .eq 7, 3) := by decide +kernel
theorem dX9_waitingMany_23 : decode cX9_waitingMany 23 = .ok (.iload_n 1, 1) := by decide +kernel
theorem dX9_waitingMany_24 : decode cX9_waitingMany 24 = .ok (.iconst 1, 1) := by decide +kernel
theorem dX9_waitingMany_25 : decode cX9_waitingMany 25 = .ok (.iadd, 1) := by decide +kernel
theorem dX9_waitingMany_26 : decode cX9_waitingMany 26 = .ok (.istore_n 1, 1) := by decide +kernel
theorem dX9_waitingMany_27 : decode cX9_waitingMany 27 = .ok (.iinc 2 1, 3) := by decide +kernel
theorem dX9_waitingMany_30 : decode cX9_waitingMany 30 = .ok (.goto (-26), 3) := by decide +kernel
theorem dX9_waitingMany_33 : decode cX9_waitingMany 33 = .ok (.iload_n 1, 1) := by decide +kernel
theorem dX9_waitingMany_34 : decode cX9_waitingMany 34 = .ok (.ireturn, 1) := by decide +kernel
theorem dX9_count_0 : decode cX9_count 0 = .ok (.aload_n 0, 1) := by decide +kernel
theorem dX9_count_1 : decode cX9_count 1 = .ok (.iconst 0, 1) := by decide +kernel
theorem dX9_count_2 : decode cX9_count 2 = .ok (.putfield 67, 3) := by decide +kernel
theorem dX9_count_5 : decode cX9_count 5 = .ok (.iload_n 1, 1) := by decide +kernel
theorem dX9_count_6 : decode cX9_count 6 = .ok (.tableswitch 227 0 20 #[98, 103, 108, 115, 122, 127, 132, 137, 142, 147, 152, 160, 166, 172, 180, 185, 193, 201, 208, 215, 222], 98) := by decide +kernel
theorem dX9_count_104 : decode cX9_count 104 = .ok (.aload_n 0, 1) := by decide +kernel
theorem dX9_count_105 : decode cX9_count 105 = .ok (.getfield 100, 3) := by decide +kernel
theorem dX9_count_108 : decode cX9_count 108 = .ok (.ireturn, 1) := by decide +kernel
theorem dX9_count_109 : decode cX9_count 109 = .ok (.aload_n 0, 1) := by decide +kernel
theorem dX9_count_110 : decode cX9_count 110 = .ok (.getfield 89, 3) := by decide +kernel
theorem dX9_count_113 : decode cX9_count 113 = .ok (.ireturn, 1) := by decide +kernel
theorem dX9_count_114 : decode cX9_count 114 = .ok (.aload_n 0, 1) := by decide +kernel
theorem dX9_count_115 : decode cX9_count 115 = .ok (.getfield 13, 3) := by decide +kernel
theorem dX9_count_118 : decode cX9_count 118 = .ok (.iconst 0, 1) := by decide +kernel
theorem dX9_count_119 : decode cX9_count 119 = .ok (.iaload, 1) := by decide +kernel
theorem dX9_count_120 : decode cX9_count 120 = .ok (.ireturn, 1) := by decide +kernel
theorem dX9_count_121 : decode cX9_count 121 = .ok (.aload_n 0, 1) := by decide +kernel
theorem dX9_count_122 : decode cX9_count 122 = .ok (.getfield 13, 3) := by decide +kernel
theorem dX9_count_125 : decode cX9_count 125 = .ok (.iconst 1, 1) := by decide +kernel
theorem dX9_count_126 : decode cX9_count 126 = .ok (.iaload, 1) := by decide +kernel
theorem dX9_count_127 : decode cX9_count 127 = .ok (.ireturn, 1) := by decide +kernel
theorem dX9_count_128 : decode cX9_count 128 = .ok (.aload_n 0, 1) := by decide +kernel
theorem dX9_count_129 : decode cX9_count 129 = .ok (.getfield 193, 3) := by decide +kernel
theorem dX9_count_132 : decode cX9_count 132 = .ok (.ireturn, 1) := by decide +kernel
theorem dX9_count_133 : decode cX9_count 133 = .ok (.aload_n 0, 1) := by decide +kernel
theorem dX9_count_134 : decode cX9_count 134 = .ok (.getfield 117, 3) := by decide +kernel
theorem dX9_count_137 : decode cX9_count 137 = .ok (.ireturn, 1) := by decide +kernel
theorem dX9_count_138 : decode cX9_count 138 = .ok (.aload_n 0, 1) := by decide +kernel
theorem dX9_count_139 : decode cX9_count 139 = .ok (.getfield 190, 3) := by decide +kernel
theorem dX9_count_142 : decode cX9_count 142 = .ok (.ireturn, 1) := by decide +kernel
theorem dX9_count_143 : decode cX9_count 143 = .ok (.aload_n 0, 1) := by decide +kernel
theorem dX9_count_144 : decode cX9_count 144 = .ok (.getfield 148, 3) := by decide +kernel
theorem dX9_count_147 : decode cX9_count 147 = .ok (.ireturn, 1) := by decide +kernel
theorem dX9_count_148 : decode cX9_count 148 = .ok (.aload_n 0, 1) := by decide +kernel
theorem dX9_count_149 : decode cX9_count 149 = .ok (.getfield 251, 3) := by decide +kernel
theorem dX9_count_152 : decode cX9_count 152 = .ok (.ireturn, 1) := by decide +kernel
theorem dX9_count_153 : decode cX9_count 153 = .ok (.aload_n 0, 1) := by decide +kernel
theorem dX9_count_154 : decode cX9_count 154 = .ok (.invokevirtual 166, 3) := by decide +kernel
theorem dX9_count_157 : decode cX9_count 157 = .ok (.ireturn, 1) := by decide +kernel
theorem dX9_count_158 : decode cX9_count 158 = .ok (.aload_n 0, 1) := by decide +kernel
theorem dX9_count_159 : decode cX9_count 159 = .ok (.getfield 13, 3) := by decide +kernel
theorem dX9_count_162 : decode cX9_count 162 = .ok (.bipush 6, 2) := by decide +kernel
theorem dX9_count_164 : decode cX9_count 164 = .ok (.iaload, 1) := by decide +kernel
theorem dX9_count_165 : decode cX9_count 165 = .ok (.ireturn, 1) := by decide +kernel
theorem dX9_count_166 : decode cX9_count 166 = .ok (.aload_n 0, 1) := by decide +kernel
theorem dX9_count_167 : decode cX9_count 167 = .ok (.iconst 0, 1) := by decide +kernel
theorem dX9_count_168 : decode cX9_count 168 = .ok (.invokevirtual 274, 3) := by decide +kernel
theorem dX9_count_171 : decode cX9_count 171 = .ok (.ireturn, 1) := by decide +kernel
theorem dX9_count_172 : decode cX9_count 172 = .ok (.aload_n 0, 1) := by decide +kernel
theorem dX9_count_173 : decode cX9_count 173 = .ok (.iconst 1, 1) := by decide +kernel
theorem dX9_count_174 : decode cX9_count 174 = .ok (.invokevirtual 274, 3) := by decide +kernel
theorem dX9_count_177 : decode cX9_count 177 = .ok (.ireturn, 1) := by decide +kernel
theorem dX9_count_178 : decode cX9_count 178 = .ok (.aload_n 0, 1) := by decide +kernel
theorem dX9_count_179 : decode cX9_count 179 = .ok (.getfield 13, 3) := by decide +kernel
theorem dX9_count_182 : decode cX9_count 182 = .ok (.bipush 7, 2) := by decide +kernel
theorem dX9_count_184 : decode cX9_count 184 = .ok (.iaload, 1) := by decide +kernel
theorem dX9_count_185 : decode cX9_count 185 = .ok (.ireturn, 1) := by decide +kernel
theorem dX9_count_186 : decode cX9_count 186 = .ok (.aload_n 0, 1) := by decide +kernel
theorem dX9_count_187 : decode cX9_count 187 = .ok (.invokevirtual 278, 3) := by decide +kernel
theorem dX9_count_190 : decode cX9_count 190 = .ok (.ireturn, 1) := by decide +kernel
theorem dX9_count_191 : decode cX9_count 191 = .ok (.aload_n 0, 1) := by decide +kernel
theorem dX9_count_192 : decode cX9_count 192 = .ok (.getfield 13, 3) := by decide +kernel
theorem dX9_count_195 : decode cX9_count 195 = .ok (.bipush 8, 2) := by decide +kernel
theorem dX9_count_197 : decode cX9_count 197 = .ok (.iaload, 1) := by decide +kernel
theorem dX9_count_198 : decode cX9_count 198 = .ok (.ireturn, 1) := by decide +kernel
theorem dX9_count_199 : decode cX9_count 199 = .ok (.aload_n 0, 1) := by decide +kernel
theorem dX9_count_200 : decode cX9_count 200 = .ok (.getfield 13, 3) := by decide +kernel
theorem dX9_count_203 : decode cX9_count 203 = .ok (.bipush 9, 2) := by decide +kernel
theorem dX9_count_205 : decode cX9_count 205 = .ok (.iaload, 1) := by decide +kernel
theorem dX9_count_206 : decode cX9_count 206 = .ok (.ireturn, 1) := by decide +kernel
theorem dX9_count_207 : decode cX9_count 207 = .ok (.aload_n 0, 1) := by decide +kernel
theorem dX9_count_208 : decode cX9_count 208 = .ok (.getfield 13, 3) := by decide +kernel
theorem dX9_count_211 : decode cX9_count 211 = .ok (.iconst 2, 1) := by decide +kernel
theorem dX9_count_212 : decode cX9_count 212 = .ok (.iaload, 1) := by decide +kernel
theorem dX9_count_213 : decode cX9_count 213 = .ok (.ireturn, 1) := by decide +kernel
theorem dX9_count_214 : decode cX9_count 214 = .ok (.aload_n 0, 1) := by decide +kernel
theorem dX9_count_215 : decode cX9_count 215 = .ok (.getfield 13, 3) := by decide +kernel
theorem dX9_count_218 : decode cX9_count 218 = .ok (.iconst 4, 1) := by decide +kernel
theorem dX9_count_219 : decode cX9_count 219 = .ok (.iaload, 1) := by decide +kernel
theorem dX9_count_220 : decode cX9_count 220 = .ok (.ireturn, 1) := by decide +kernel
theorem dX9_count_221 : decode cX9_count 221 = .ok (.aload_n 0, 1) := by decide +kernel
theorem dX9_count_222 : decode cX9_count 222 = .ok (.getfield 13, 3) := by decide +kernel
theorem dX9_count_225 : decode cX9_count 225 = .ok (.iconst 5, 1) := by decide +kernel
theorem dX9_count_226 : decode cX9_count 226 = .ok (.iaload, 1) := by decide +kernel
theorem dX9_count_227 : decode cX9_count 227 = .ok (.ireturn, 1) := by decide +kernel
theorem dX9_count_228 : decode cX9_count 228 = .ok (.aload_n 0, 1) := by decide +kernel
theorem dX9_count_229 : decode cX9_count 229 = .ok (.getfield 74, 3) := by decide +kernel
theorem dX9_count_232 : decode cX9_count 232 = .ok (.ireturn, 1) := by decide +kernel
theorem dX9_count_233 : decode cX9_count 233 = .ok (.iconst (-1), 1) := by decide +kernel
theorem dX9_count_234 : decode cX9_count 234 = .ok (.ireturn, 1) := by decide +kernel
theorem dX9_pagesOfAll_0 : decode cX9_pagesOfAll 0 = .ok (.iconst 0, 1) := by decide +kernel
theorem dX9_pagesOfAll_1 : decode cX9_pagesOfAll 1 = .ok (.istore_n 2, 1) := by decide +kernel
theorem dX9_pagesOfAll_2 : decode cX9_pagesOfAll 2 = .ok (.iconst 0, 1) := by decide +kernel
theorem dX9_pagesOfAll_3 : decode cX9_pagesOfAll 3 = .ok (.istore_n 3, 1) := by decide +kernel
theorem dX9_pagesOfAll_4 : decode cX9_pagesOfAll 4 = .ok (.iload_n 3, 1) := by decide +kernel
theorem dX9_pagesOfAll_5 : decode cX9_pagesOfAll 5 = .ok (.aload_n 0, 1) := by decide +kernel
theorem dX9_pagesOfAll_6 : decode cX9_pagesOfAll 6 = .ok (.getfield 13, 3) := by decide +kernel
theorem dX9_pagesOfAll_9 : decode cX9_pagesOfAll 9 = .ok (.bipush 6, 2) := by decide +kernel
theorem dX9_pagesOfAll_11 : decode cX9_pagesOfAll 11 = .ok (.iaload, 1) := by decide +kernel
theorem dX9_pagesOfAll_12 : decode cX9_pagesOfAll 12 = .ok (.if_icmp .ge 27, 3) := by decide +kernel
theorem dX9_pagesOfAll_15 : decode cX9_pagesOfAll 15 = .ok (.aload_n 0, 1) := by decide +kernel
theorem dX9_pagesOfAll_16 : decode cX9_pagesOfAll 16 = .ok (.iload_n 3, 1) := by decide +kernel
theorem dX9_pagesOfAll_17 : decode cX9_pagesOfAll 17 = .ok (.iconst 0, 1) := by decide +kernel
theorem dX9_pagesOfAll_18 : decode cX9_pagesOfAll 18 = .ok (.invokevirtual 106, 3) := by decide +kernel
theorem dX9_pagesOfAll_21 : decode cX9_pagesOfAll 21 = .ok (.iload_n 1, 1) := by decide +kernel
theorem dX9_pagesOfAll_22 : decode cX9_pagesOfAll 22 = .ok (.if_icmp .ne 11, 3) := by decide +kernel
theorem dX9_pagesOfAll_25 : decode cX9_pagesOfAll 25 = .ok (.iload_n 2, 1) := by decide +kernel
theorem dX9_pagesOfAll_26 : decode cX9_pagesOfAll 26 = .ok (.aload_n 0, 1) := by decide +kernel
theorem dX9_pagesOfAll_27 : decode cX9_pagesOfAll 27 = .ok (.iload_n 3, 1) := by decide +kernel
theorem dX9_pagesOfAll_28 : decode cX9_pagesOfAll 28 = .ok (.invokevirtual 103, 3) := by decide +kernel
theorem dX9_pagesOfAll_31 : decode cX9_pagesOfAll 31 = .ok (.iadd, 1) := by decide +kernel
theorem dX9_pagesOfAll_32 : decode cX9_pagesOfAll 32 = .ok (.istore_n 2, 1) := by decide +kernel
theorem dX9_pagesOfAll_33 : decode cX9_pagesOfAll 33 = .ok (.iinc 3 1, 3) := by decide +kernel
theorem dX9_pagesOfAll_36 : decode cX9_pagesOfAll 36 = .ok (.goto (-32), 3) := by decide +kernel
theorem dX9_pagesOfAll_39 : decode cX9_pagesOfAll 39 = .ok (.iload_n 2, 1) := by decide +kernel
theorem dX9_pagesOfAll_40 : decode cX9_pagesOfAll 40 = .ok (.ireturn, 1) := by decide +kernel
theorem dX9_loansOf_0 : decode cX9_loansOf 0 = .ok (.iconst 0, 1) := by decide +kernel
theorem dX9_loansOf_1 : decode cX9_loansOf 1 = .ok (.istore_n 3, 1) := by decide +kernel
theorem dX9_loansOf_2 : decode cX9_loansOf 2 = .ok (.iconst 0, 1) := by decide +kernel
theorem dX9_loansOf_3 : decode cX9_loansOf 3 = .ok (.istore 4, 2) := by decide +kernel
theorem dX9_loansOf_5 : decode cX9_loansOf 5 = .ok (.iload 4, 2) := by decide +kernel
theorem dX9_loansOf_7 : decode cX9_loansOf 7 = .ok (.aload_n 0, 1) := by decide +kernel
theorem dX9_loansOf_8 : decode cX9_loansOf 8 = .ok (.getfield 13, 3) := by decide +kernel
theorem dX9_loansOf_11 : decode cX9_loansOf 11 = .ok (.bipush 6, 2) := by decide +kernel
theorem dX9_loansOf_13 : decode cX9_loansOf 13 = .ok (.iaload, 1) := by decide +kernel
theorem dX9_loansOf_14 : decode cX9_loansOf 14 = .ok (.if_icmp .ge 49, 3) := by decide +kernel
theorem dX9_loansOf_17 : decode cX9_loansOf 17 = .ok (.aload_n 0, 1) := by decide +kernel
theorem dX9_loansOf_18 : decode cX9_loansOf 18 = .ok (.iload 4, 2) := by decide +kernel
theorem dX9_loansOf_20 : decode cX9_loansOf 20 = .ok (.iconst 0, 1) := by decide +kernel
theorem dX9_loansOf_21 : decode cX9_loansOf 21 = .ok (.invokevirtual 106, 3) := by decide +kernel
theorem dX9_loansOf_24 : decode cX9_loansOf 24 = .ok (.iload_n 1, 1) := by decide +kernel
theorem dX9_loansOf_25 : decode cX9_loansOf 25 = .ok (.if_icmp .ne 32, 3) := by decide +kernel
theorem dX9_loansOf_28 : decode cX9_loansOf 28 = .ok (.iload_n 2, 1) := by decide +kernel
theorem dX9_loansOf_29 : decode cX9_loansOf 29 = .ok (.ifCond .eq 15, 3) := by decide +kernel
theorem dX9_loansOf_32 : decode cX9_loansOf 32 = .ok (.aload_n 0, 1) := by decide +kernel
theorem dX9_loansOf_33 : decode cX9_loansOf 33 = .ok (.iload 4, 2) := by decide +kernel
theorem dX9_loansOf_35 : decode cX9_loansOf 35 = .ok (.invokevirtual 109, 3) := by decide +kernel
theorem dX9_loansOf_38 : decode cX9_loansOf 38 = .ok (.ifCond .eq 19, 3) := by decide +kernel
theorem dX9_loansOf_41 : decode cX9_loansOf 41 = .ok (.goto 12, 3) := by decide +kernel
theorem dX9_loansOf_44 : decode cX9_loansOf 44 = .ok (.aload_n 0, 1) := by decide +kernel
theorem dX9_loansOf_45 : decode cX9_loansOf 45 = .ok (.iload 4, 2) := by decide +kernel
theorem dX9_loansOf_47 : decode cX9_loansOf 47 = .ok (.invokevirtual 103, 3) := by decide +kernel
theorem dX9_loansOf_50 : decode cX9_loansOf 50 = .ok (.ifCond .le 7, 3) := by decide +kernel
theorem dX9_loansOf_53 : decode cX9_loansOf 53 = .ok (.iload_n 3, 1) := by decide +kernel
theorem dX9_loansOf_54 : decode cX9_loansOf 54 = .ok (.iconst 1, 1) := by decide +kernel
theorem dX9_loansOf_55 : decode cX9_loansOf 55 = .ok (.iadd, 1) := by decide +kernel
theorem dX9_loansOf_56 : decode cX9_loansOf 56 = .ok (.istore_n 3, 1) := by decide +kernel
theorem dX9_loansOf_57 : decode cX9_loansOf 57 = .ok (.iinc 4 1, 3) := by decide +kernel
theorem dX9_loansOf_60 : decode cX9_loansOf 60 = .ok (.goto (-55), 3) := by decide +kernel
theorem dX9_loansOf_63 : decode cX9_loansOf 63 = .ok (.iload_n 3, 1) := by decide +kernel
theorem dX9_loansOf_64 : decode cX9_loansOf 64 = .ok (.ireturn, 1) := by decide +kernel
theorem dX9_waitingOf_0 : decode cX9_waitingOf 0 = .ok (.iconst 0, 1) := by decide +kernel
theorem dX9_waitingOf_1 : decode cX9_waitingOf 1 = .ok (.istore_n 2, 1) := by decide +kernel
theorem dX9_waitingOf_2 : decode cX9_waitingOf 2 = .ok (.iconst 0, 1) := by decide +kernel
theorem dX9_waitingOf_3 : decode cX9_waitingOf 3 = .ok (.istore_n 3, 1) := by decide +kernel
theorem dX9_waitingOf_4 : decode cX9_waitingOf 4 = .ok (.iload_n 3, 1) := by decide +kernel
theorem dX9_waitingOf_5 : decode cX9_waitingOf 5 = .ok (.aload_n 0, 1) := by decide +kernel
theorem dX9_waitingOf_6 : decode cX9_waitingOf 6 = .ok (.getfield 13, 3) := by decide +kernel
theorem dX9_waitingOf_9 : decode cX9_waitingOf 9 = .ok (.bipush 7, 2) := by decide +kernel
theorem dX9_waitingOf_11 : decode cX9_waitingOf 11 = .ok (.iaload, 1) := by decide +kernel
theorem dX9_waitingOf_12 : decode cX9_waitingOf 12 = .ok (.if_icmp .ge 31, 3) := by decide +kernel
theorem dX9_waitingOf_15 : decode cX9_waitingOf 15 = .ok (.aload_n 0, 1) := by decide +kernel
theorem dX9_waitingOf_16 : decode cX9_waitingOf 16 = .ok (.iload_n 3, 1) := by decide +kernel
theorem dX9_waitingOf_17 : decode cX9_waitingOf 17 = .ok (.invokevirtual 142, 3) := by decide +kernel
theorem dX9_waitingOf_20 : decode cX9_waitingOf 20 = .ok (.ifCond .eq 17, 3) := by decide +kernel
theorem dX9_waitingOf_23 : decode cX9_waitingOf 23 = .ok (.aload_n 0, 1) := by decide +kernel
theorem dX9_waitingOf_24 : decode cX9_waitingOf 24 = .ok (.iload_n 3, 1) := by decide +kernel
theorem dX9_waitingOf_25 : decode cX9_waitingOf 25 = .ok (.iconst 0, 1) := by decide +kernel
theorem dX9_waitingOf_26 : decode cX9_waitingOf 26 = .ok (.invokevirtual 139, 3) := by decide +kernel
theorem dX9_waitingOf_29 : decode cX9_waitingOf 29 = .ok (.iload_n 1, 1) := by decide +kernel
theorem dX9_waitingOf_30 : decode cX9_waitingOf 30 = .ok (.if_icmp .ne 7, 3) := by decide +kernel
theorem dX9_waitingOf_33 : decode cX9_waitingOf 33 = .ok (.iload_n 2, 1) := by decide +kernel
theorem dX9_waitingOf_34 : decode cX9_waitingOf 34 = .ok (.iconst 1, 1) := by decide +kernel
theorem dX9_waitingOf_35 : decode cX9_waitingOf 35 = .ok (.iadd, 1) := by decide +kernel
theorem dX9_waitingOf_36 : decode cX9_waitingOf 36 = .ok (.istore_n 2, 1) := by decide +kernel
theorem dX9_waitingOf_37 : decode cX9_waitingOf 37 = .ok (.iinc 3 1, 3) := by decide +kernel
theorem dX9_waitingOf_40 : decode cX9_waitingOf 40 = .ok (.goto (-36), 3) := by decide +kernel
theorem dX9_waitingOf_43 : decode cX9_waitingOf 43 = .ok (.iload_n 2, 1) := by decide +kernel
theorem dX9_waitingOf_44 : decode cX9_waitingOf 44 = .ok (.ireturn, 1) := by decide +kernel
theorem dX9_process_0 : decode cX9_process 0 = .ok (.aload_n 0, 1) := by decide +kernel
theorem dX9_process_1 : decode cX9_process 1 = .ok (.aload_n 0, 1) := by decide +kernel
theorem dX9_process_2 : decode cX9_process 2 = .ok (.iload_n 1, 1) := by decide +kernel
theorem dX9_process_3 : decode cX9_process 3 = .ok (.invokevirtual 223, 3) := by decide +kernel
theorem dX9_process_6 : decode cX9_process 6 = .ok (.ifCond .eq 19, 3) := by decide +kernel
theorem dX9_process_9 : decode cX9_process 9 = .ok (.iload_n 2, 1) := by decide +kernel
theorem dX9_process_10 : decode cX9_process 10 = .ok (.i2l, 1) := by decide +kernel
theorem dX9_process_11 : decode cX9_process 11 = .ok (.lconst 0, 1) := by decide +kernel
theorem dX9_process_12 : decode cX9_process 12 = .ok (.ldc2_w 281, 3) := by decide +kernel
theorem dX9_process_15 : decode cX9_process 15 = .ok (.invokestatic 92, 3) := by decide +kernel
theorem dX9_process_18 : decode cX9_process 18 = .ok (.ifCond .eq 7, 3) := by decide +kernel
theorem dX9_process_21 : decode cX9_process 21 = .ok (.iconst 1, 1) := by decide +kernel
theorem dX9_process_22 : decode cX9_process 22 = .ok (.goto 4, 3) := by decide +kernel
theorem dX9_process_25 : decode cX9_process 25 = .ok (.iconst 0, 1) := by decide +kernel
theorem dX9_process_26 : decode cX9_process 26 = .ok (.invokevirtual 77, 3) := by decide +kernel
theorem dX9_process_29 : decode cX9_process 29 = .ok (.ifCond .ne 5, 3) := by decide +kernel
theorem dX9_process_32 : decode cX9_process 32 = .ok (.iconst 0, 1) := by decide +kernel
theorem dX9_process_33 : decode cX9_process 33 = .ok (.ireturn, 1) := by decide +kernel
theorem dX9_process_34 : decode cX9_process 34 = .ok (.iload_n 2, 1) := by decide +kernel
theorem dX9_process_35 : decode cX9_process 35 = .ok (.tableswitch 96 0 8 #[49, 49, 49, 56, 62, 69, 76, 82, 89], 49) := by decide +kernel
theorem dX9_process_84 : decode cX9_process 84 = .ok (.aload_n 0, 1) := by decide +kernel
theorem dX9_process_85 : decode cX9_process 85 = .ok (.iload_n 1, 1) := by decide +kernel
theorem dX9_process_86 : decode cX9_process 86 = .ok (.iload_n 2, 1) := by decide +kernel
theorem dX9_process_87 : decode cX9_process 87 = .ok (.invokevirtual 120, 3) := by decide +kernel
theorem dX9_process_90 : decode cX9_process 90 = .ok (.ireturn, 1) := by decide +kernel
theorem dX9_process_91 : decode cX9_process 91 = .ok (.aload_n 0, 1) := by decide +kernel
theorem dX9_process_92 : decode cX9_process 92 = .ok (.iload_n 1, 1) := by decide +kernel
theorem dX9_process_93 : decode cX9_process 93 = .ok (.invokevirtual 283, 3) := by decide +kernel
theorem dX9_process_96 : decode cX9_process 96 = .ok (.ireturn, 1) := by decide +kernel
theorem dX9_process_97 : decode cX9_process 97 = .ok (.aload_n 0, 1) := by decide +kernel
theorem dX9_process_98 : decode cX9_process 98 = .ok (.iload_n 1, 1) := by decide +kernel
theorem dX9_process_99 : decode cX9_process 99 = .ok (.iconst 0, 1) := by decide +kernel
theorem dX9_process_100 : decode cX9_process 100 = .ok (.invokevirtual 286, 3) := by decide +kernel
theorem dX9_process_103 : decode cX9_process 103 = .ok (.ireturn, 1) := by decide +kernel
theorem dX9_process_104 : decode cX9_process 104 = .ok (.aload_n 0, 1) := by decide +kernel
theorem dX9_process_105 : decode cX9_process 105 = .ok (.iload_n 1, 1) := by decide +kernel
theorem dX9_process_106 : decode cX9_process 106 = .ok (.iconst 1, 1) := by decide +kernel
theorem dX9_process_107 : decode cX9_process 107 = .ok (.invokevirtual 286, 3) := by decide +kernel
theorem dX9_process_110 : decode cX9_process 110 = .ok (.ireturn, 1) := by decide +kernel
theorem dX9_process_111 : decode cX9_process 111 = .ok (.aload_n 0, 1) := by decide +kernel
theorem dX9_process_112 : decode cX9_process 112 = .ok (.iload_n 1, 1) := by decide +kernel
theorem dX9_process_113 : decode cX9_process 113 = .ok (.invokevirtual 290, 3) := by decide +kernel
theorem dX9_process_116 : decode cX9_process 116 = .ok (.ireturn, 1) := by decide +kernel
theorem dX9_process_117 : decode cX9_process 117 = .ok (.aload_n 0, 1) := by decide +kernel
theorem dX9_process_118 : decode cX9_process 118 = .ok (.iload_n 1, 1) := by decide +kernel
theorem dX9_process_119 : decode cX9_process 119 = .ok (.iconst 3, 1) := by decide +kernel
theorem dX9_process_120 : decode cX9_process 120 = .ok (.invokevirtual 120, 3) := by decide +kernel
theorem dX9_process_123 : decode cX9_process 123 = .ok (.ireturn, 1) := by decide +kernel
theorem dX9_process_124 : decode cX9_process 124 = .ok (.aload_n 0, 1) := by decide +kernel
theorem dX9_process_125 : decode cX9_process 125 = .ok (.iload_n 1, 1) := by decide +kernel
theorem dX9_process_126 : decode cX9_process 126 = .ok (.iconst 4, 1) := by decide +kernel
theorem dX9_process_127 : decode cX9_process 127 = .ok (.invokevirtual 120, 3) := by decide +kernel
theorem dX9_process_130 : decode cX9_process 130 = .ok (.ireturn, 1) := by decide +kernel
theorem dX9_process_131 : decode cX9_process 131 = .ok (.aload_n 0, 1) := by decide +kernel
theorem dX9_process_132 : decode cX9_process 132 = .ok (.iload_n 1, 1) := by decide +kernel
theorem dX9_process_133 : decode cX9_process 133 = .ok (.iconst 5, 1) := by decide +kernel
theorem dX9_process_134 : decode cX9_process 134 = .ok (.invokevirtual 120, 3) := by decide +kernel
theorem dX9_process_137 : decode cX9_process 137 = .ok (.ireturn, 1) := by decide +kernel
theorem dX9_loan_0 : decode cX9_loan 0 = .ok (.aload_n 0, 1) := by decide +kernel
theorem dX9_loan_1 : decode cX9_loan 1 = .ok (.aload_n 0, 1) := by decide +kernel
theorem dX9_loan_2 : decode cX9_loan 2 = .ok (.iload_n 1, 1) := by decide +kernel
theorem dX9_loan_3 : decode cX9_loan 3 = .ok (.invokevirtual 235, 3) := by decide +kernel
theorem dX9_loan_6 : decode cX9_loan 6 = .ok (.ifCond .eq 19, 3) := by decide +kernel
theorem dX9_loan_9 : decode cX9_loan 9 = .ok (.iload_n 2, 1) := by decide +kernel
theorem dX9_loan_10 : decode cX9_loan 10 = .ok (.i2l, 1) := by decide +kernel
theorem dX9_loan_11 : decode cX9_loan 11 = .ok (.lconst 0, 1) := by decide +kernel
theorem dX9_loan_12 : decode cX9_loan 12 = .ok (.ldc2_w 293, 3) := by decide +kernel
theorem dX9_loan_15 : decode cX9_loan 15 = .ok (.invokestatic 92, 3) := by decide +kernel
theorem dX9_loan_18 : decode cX9_loan 18 = .ok (.ifCond .eq 7, 3) := by decide +kernel
theorem dX9_loan_21 : decode cX9_loan 21 = .ok (.iconst 1, 1) := by decide +kernel
theorem dX9_loan_22 : decode cX9_loan 22 = .ok (.goto 4, 3) := by decide +kernel
theorem dX9_loan_25 : decode cX9_loan 25 = .ok (.iconst 0, 1) := by decide +kernel
theorem dX9_loan_26 : decode cX9_loan 26 = .ok (.invokevirtual 77, 3) := by decide +kernel
theorem dX9_loan_29 : decode cX9_loan 29 = .ok (.ifCond .ne 5, 3) := by decide +kernel
theorem dX9_loan_32 : decode cX9_loan 32 = .ok (.iconst 0, 1) := by decide +kernel
theorem dX9_loan_33 : decode cX9_loan 33 = .ok (.ireturn, 1) := by decide +kernel
theorem dX9_loan_34 : decode cX9_loan 34 = .ok (.iload_n 2, 1) := by decide +kernel
theorem dX9_loan_35 : decode cX9_loan 35 = .ok (.tableswitch 96 0 6 #[41, 48, 54, 61, 68, 75, 89], 41) := by decide +kernel
theorem dX9_loan_76 : decode cX9_loan 76 = .ok (.aload_n 0, 1) := by decide +kernel
theorem dX9_loan_77 : decode cX9_loan 77 = .ok (.iload_n 1, 1) := by decide +kernel
theorem dX9_loan_78 : decode cX9_loan 78 = .ok (.iconst 0, 1) := by decide +kernel
theorem dX9_loan_79 : decode cX9_loan 79 = .ok (.invokevirtual 106, 3) := by decide +kernel
theorem dX9_loan_82 : decode cX9_loan 82 = .ok (.ireturn, 1) := by decide +kernel
theorem dX9_loan_83 : decode cX9_loan 83 = .ok (.aload_n 0, 1) := by decide +kernel
theorem dX9_loan_84 : decode cX9_loan 84 = .ok (.iload_n 1, 1) := by decide +kernel
theorem dX9_loan_85 : decode cX9_loan 85 = .ok (.invokevirtual 103, 3) := by decide +kernel
theorem dX9_loan_88 : decode cX9_loan 88 = .ok (.ireturn, 1) := by decide +kernel
theorem dX9_loan_89 : decode cX9_loan 89 = .ok (.aload_n 0, 1) := by decide +kernel
theorem dX9_loan_90 : decode cX9_loan 90 = .ok (.iload_n 1, 1) := by decide +kernel
theorem dX9_loan_91 : decode cX9_loan 91 = .ok (.iconst 1, 1) := by decide +kernel
theorem dX9_loan_92 : decode cX9_loan 92 = .ok (.invokevirtual 106, 3) := by decide +kernel
theorem dX9_loan_95 : decode cX9_loan 95 = .ok (.ireturn, 1) := by decide +kernel
theorem dX9_loan_96 : decode cX9_loan 96 = .ok (.aload_n 0, 1) := by decide +kernel
theorem dX9_loan_97 : decode cX9_loan 97 = .ok (.iload_n 1, 1) := by decide +kernel
theorem dX9_loan_98 : decode cX9_loan 98 = .ok (.iconst 2, 1) := by decide +kernel
theorem dX9_loan_99 : decode cX9_loan 99 = .ok (.invokevirtual 106, 3) := by decide +kernel
theorem dX9_loan_102 : decode cX9_loan 102 = .ok (.ireturn, 1) := by decide +kernel
theorem dX9_loan_103 : decode cX9_loan 103 = .ok (.aload_n 0, 1) := by decide +kernel
theorem dX9_loan_104 : decode cX9_loan 104 = .ok (.iload_n 1, 1) := by decide +kernel
theorem dX9_loan_105 : decode cX9_loan 105 = .ok (.iconst 3, 1) := by decide +kernel
theorem dX9_loan_106 : decode cX9_loan 106 = .ok (.invokevirtual 106, 3) := by decide +kernel
theorem dX9_loan_109 : decode cX9_loan 109 = .ok (.ireturn, 1) := by decide +kernel
theorem dX9_loan_110 : decode cX9_loan 110 = .ok (.aload_n 0, 1) := by decide +kernel
theorem dX9_loan_111 : decode cX9_loan 111 = .ok (.iload_n 1, 1) := by decide +kernel
theorem dX9_loan_112 : decode cX9_loan 112 = .ok (.invokevirtual 109, 3) := by decide +kernel
theorem dX9_loan_115 : decode cX9_loan 115 = .ok (.ifCond .eq 7, 3) := by decide +kernel
theorem dX9_loan_118 : decode cX9_loan 118 = .ok (.iconst 1, 1) := by decide +kernel
theorem dX9_loan_119 : decode cX9_loan 119 = .ok (.goto 4, 3) := by decide +kernel
theorem dX9_loan_122 : decode cX9_loan 122 = .ok (.iconst 0, 1) := by decide +kernel
theorem dX9_loan_123 : decode cX9_loan 123 = .ok (.ireturn, 1) := by decide +kernel
theorem dX9_loan_124 : decode cX9_loan 124 = .ok (.aload_n 0, 1) := by decide +kernel
theorem dX9_loan_125 : decode cX9_loan 125 = .ok (.iload_n 1, 1) := by decide +kernel
theorem dX9_loan_126 : decode cX9_loan 126 = .ok (.iconst 4, 1) := by decide +kernel
theorem dX9_loan_127 : decode cX9_loan 127 = .ok (.invokevirtual 106, 3) := by decide +kernel
theorem dX9_loan_130 : decode cX9_loan 130 = .ok (.ireturn, 1) := by decide +kernel
theorem dX9_loan_131 : decode cX9_loan 131 = .ok (.aload_n 0, 1) := by decide +kernel
theorem dX9_loan_132 : decode cX9_loan 132 = .ok (.iload_n 1, 1) := by decide +kernel
theorem dX9_loan_133 : decode cX9_loan 133 = .ok (.iconst 5, 1) := by decide +kernel
theorem dX9_loan_134 : decode cX9_loan 134 = .ok (.invokevirtual 106, 3) := by decide +kernel
theorem dX9_loan_137 : decode cX9_loan 137 = .ok (.ireturn, 1) := by decide +kernel
theorem dX9_page_0 : decode cX9_page 0 = .ok (.aload_n 0, 1) := by decide +kernel
theorem dX9_page_1 : decode cX9_page 1 = .ok (.iload_n 1, 1) := by decide +kernel
theorem dX9_page_2 : decode cX9_page 2 = .ok (.i2l, 1) := by decide +kernel
theorem dX9_page_3 : decode cX9_page 3 = .ok (.lconst 0, 1) := by decide +kernel
theorem dX9_page_4 : decode cX9_page 4 = .ok (.aload_n 0, 1) := by decide +kernel
theorem dX9_page_5 : decode cX9_page 5 = .ok (.getfield 100, 3) := by decide +kernel
theorem dX9_page_8 : decode cX9_page 8 = .ok (.iconst 1, 1) := by decide +kernel
theorem dX9_page_9 : decode cX9_page 9 = .ok (.isub, 1) := by decide +kernel
theorem dX9_page_10 : decode cX9_page 10 = .ok (.i2l, 1) := by decide +kernel
theorem dX9_page_11 : decode cX9_page 11 = .ok (.invokestatic 92, 3) := by decide +kernel
theorem dX9_page_14 : decode cX9_page 14 = .ok (.invokevirtual 77, 3) := by decide +kernel
theorem dX9_page_17 : decode cX9_page 17 = .ok (.ifCond .eq 16, 3) := by decide +kernel
theorem dX9_page_20 : decode cX9_page 20 = .ok (.aload_n 0, 1) := by decide +kernel
theorem dX9_page_21 : decode cX9_page 21 = .ok (.getfield 13, 3) := by decide +kernel
theorem dX9_page_24 : decode cX9_page 24 = .ok (.sipush 538, 3) := by decide +kernel
theorem dX9_page_27 : decode cX9_page 27 = .ok (.iload_n 1, 1) := by decide +kernel
theorem dX9_page_28 : decode cX9_page 28 = .ok (.iadd, 1) := by decide +kernel
theorem dX9_page_29 : decode cX9_page 29 = .ok (.iaload, 1) := by decide +kernel
theorem dX9_page_30 : decode cX9_page 30 = .ok (.goto 4, 3) := by decide +kernel
theorem dX9_page_33 : decode cX9_page 33 = .ok (.iconst 0, 1) := by decide +kernel
theorem dX9_page_34 : decode cX9_page 34 = .ok (.ireturn, 1) := by decide +kernel
theorem dX9_pageOf_0 : decode cX9_pageOf 0 = .ok (.aload_n 0, 1) := by decide +kernel
theorem dX9_pageOf_1 : decode cX9_pageOf 1 = .ok (.aload_n 0, 1) := by decide +kernel
theorem dX9_pageOf_2 : decode cX9_pageOf 2 = .ok (.iload_n 1, 1) := by decide +kernel
theorem dX9_pageOf_3 : decode cX9_pageOf 3 = .ok (.invokevirtual 235, 3) := by decide +kernel
theorem dX9_pageOf_6 : decode cX9_pageOf 6 = .ok (.invokevirtual 77, 3) := by decide +kernel
theorem dX9_pageOf_9 : decode cX9_pageOf 9 = .ok (.ifCond .eq 25, 3) := by decide +kernel
theorem dX9_pageOf_12 : decode cX9_pageOf 12 = .ok (.aload_n 0, 1) := by decide +kernel
theorem dX9_pageOf_13 : decode cX9_pageOf 13 = .ok (.iload_n 2, 1) := by decide +kernel
theorem dX9_pageOf_14 : decode cX9_pageOf 14 = .ok (.i2l, 1) := by decide +kernel
theorem dX9_pageOf_15 : decode cX9_pageOf 15 = .ok (.lconst 0, 1) := by decide +kernel
theorem dX9_pageOf_16 : decode cX9_pageOf 16 = .ok (.aload_n 0, 1) := by decide +kernel
theorem dX9_pageOf_17 : decode cX9_pageOf 17 = .ok (.iload_n 1, 1) := by decide +kernel
theorem dX9_pageOf_18 : decode cX9_pageOf 18 = .ok (.invokevirtual 103, 3) := by decide +kernel
theorem dX9_pageOf_21 : decode cX9_pageOf 21 = .ok (.iconst 1, 1) := by decide +kernel
theorem dX9_pageOf_22 : decode cX9_pageOf 22 = .ok (.isub, 1) := by decide +kernel
theorem dX9_pageOf_23 : decode cX9_pageOf 23 = .ok (.i2l, 1) := by decide +kernel
theorem dX9_pageOf_24 : decode cX9_pageOf 24 = .ok (.invokestatic 92, 3) := by decide +kernel
theorem dX9_pageOf_27 : decode cX9_pageOf 27 = .ok (.iconst 2, 1) := by decide +kernel
theorem dX9_pageOf_28 : decode cX9_pageOf 28 = .ok (.invokevirtual 210, 3) := by decide +kernel
theorem dX9_pageOf_31 : decode cX9_pageOf 31 = .ok (.ifCond .ne 5, 3) := by decide +kernel
theorem dX9_pageOf_34 : decode cX9_pageOf 34 = .ok (.iconst 0, 1) := by decide +kernel
theorem dX9_pageOf_35 : decode cX9_pageOf 35 = .ok (.ireturn, 1) := by decide +kernel
theorem dX9_pageOf_36 : decode cX9_pageOf 36 = .ok (.iload_n 2, 1) := by decide +kernel
theorem dX9_pageOf_37 : decode cX9_pageOf 37 = .ok (.istore_n 3, 1) := by decide +kernel
theorem dX9_pageOf_38 : decode cX9_pageOf 38 = .ok (.iconst 0, 1) := by decide +kernel
theorem dX9_pageOf_39 : decode cX9_pageOf 39 = .ok (.istore 4, 2) := by decide +kernel
theorem dX9_pageOf_41 : decode cX9_pageOf 41 = .ok (.aload_n 0, 1) := by decide +kernel
theorem dX9_pageOf_42 : decode cX9_pageOf 42 = .ok (.getfield 13, 3) := by decide +kernel
theorem dX9_pageOf_45 : decode cX9_pageOf 45 = .ok (.sipush 538, 3) := by decide +kernel
theorem dX9_pageOf_48 : decode cX9_pageOf 48 = .ok (.iload 4, 2) := by decide +kernel
theorem dX9_pageOf_50 : decode cX9_pageOf 50 = .ok (.iadd, 1) := by decide +kernel
theorem dX9_pageOf_51 : decode cX9_pageOf 51 = .ok (.iaload, 1) := by decide +kernel
theorem dX9_pageOf_52 : decode cX9_pageOf 52 = .ok (.iload_n 1, 1) := by decide +kernel
theorem dX9_pageOf_53 : decode cX9_pageOf 53 = .ok (.if_icmp .ne 7, 3) := by decide +kernel
theorem dX9_pageOf_56 : decode cX9_pageOf 56 = .ok (.iload_n 3, 1) := by decide +kernel
theorem dX9_pageOf_57 : decode cX9_pageOf 57 = .ok (.ifCond .le 31, 3) := by decide +kernel
theorem dX9_pageOf_60 : decode cX9_pageOf 60 = .ok (.aload_n 0, 1) := by decide +kernel
theorem dX9_pageOf_61 : decode cX9_pageOf 61 = .ok (.getfield 13, 3) := by decide +kernel
theorem dX9_pageOf_64 : decode cX9_pageOf 64 = .ok (.sipush 538, 3) := by decide +kernel
theorem dX9_pageOf_67 : decode cX9_pageOf 67 = .ok (.iload 4, 2) := by decide +kernel
theorem dX9_pageOf_69 : decode cX9_pageOf 69 = .ok (.iadd, 1) := by decide +kernel
theorem dX9_pageOf_70 : decode cX9_pageOf 70 = .ok (.iaload, 1) := by decide +kernel
theorem dX9_pageOf_71 : decode cX9_pageOf 71 = .ok (.iload_n 1, 1) := by decide +kernel
theorem dX9_pageOf_72 : decode cX9_pageOf 72 = .ok (.if_icmp .ne 7, 3) := by decide +kernel
theorem dX9_pageOf_75 : decode cX9_pageOf 75 = .ok (.iload_n 3, 1) := by decide +kernel
theorem dX9_pageOf_76 : decode cX9_pageOf 76 = .ok (.iconst 1, 1) := by decide +kernel
theorem dX9_pageOf_77 : decode cX9_pageOf 77 = .ok (.isub, 1) := by decide +kernel
theorem dX9_pageOf_78 : decode cX9_pageOf 78 = .ok (.istore_n 3, 1) := by decide +kernel
theorem dX9_pageOf_79 : decode cX9_pageOf 79 = .ok (.iload 4, 2) := by decide +kernel
theorem dX9_pageOf_81 : decode cX9_pageOf 81 = .ok (.iconst 1, 1) := by decide +kernel
theorem dX9_pageOf_82 : decode cX9_pageOf 82 = .ok (.iadd, 1) := by decide +kernel
theorem dX9_pageOf_83 : decode cX9_pageOf 83 = .ok (.istore 4, 2) := by decide +kernel
theorem dX9_pageOf_85 : decode cX9_pageOf 85 = .ok (.goto (-44), 3) := by decide +kernel
theorem dX9_pageOf_88 : decode cX9_pageOf 88 = .ok (.iload 4, 2) := by decide +kernel
theorem dX9_pageOf_90 : decode cX9_pageOf 90 = .ok (.ireturn, 1) := by decide +kernel
theorem dX9_pieces_0 : decode cX9_pieces 0 = .ok (.aload_n 0, 1) := by decide +kernel
theorem dX9_pieces_1 : decode cX9_pieces 1 = .ok (.aload_n 0, 1) := by decide +kernel
theorem dX9_pieces_2 : decode cX9_pieces 2 = .ok (.iload_n 1, 1) := by decide +kernel
theorem dX9_pieces_3 : decode cX9_pieces 3 = .ok (.invokevirtual 235, 3) := by decide +kernel
theorem dX9_pieces_6 : decode cX9_pieces 6 = .ok (.invokevirtual 77, 3) := by decide +kernel
theorem dX9_pieces_9 : decode cX9_pieces 9 = .ok (.ifCond .ne 5, 3) := by decide +kernel
theorem dX9_pieces_12 : decode cX9_pieces 12 = .ok (.iconst 0, 1) := by decide +kernel
theorem dX9_pieces_13 : decode cX9_pieces 13 = .ok (.ireturn, 1) := by decide +kernel
theorem dX9_pieces_14 : decode cX9_pieces 14 = .ok (.iconst 0, 1) := by decide +kernel
theorem dX9_pieces_15 : decode cX9_pieces 15 = .ok (.istore_n 2, 1) := by decide +kernel
theorem dX9_pieces_16 : decode cX9_pieces 16 = .ok (.iconst 0, 1) := by decide +kernel
theorem dX9_pieces_17 : decode cX9_pieces 17 = .ok (.istore_n 3, 1) := by decide +kernel
theorem dX9_pieces_18 : decode cX9_pieces 18 = .ok (.iload_n 3, 1) := by decide +kernel
theorem dX9_pieces_19 : decode cX9_pieces 19 = .ok (.aload_n 0, 1) := by decide +kernel
theorem dX9_pieces_20 : decode cX9_pieces 20 = .ok (.getfield 100, 3) := by decide +kernel
theorem dX9_pieces_23 : decode cX9_pieces 23 = .ok (.if_icmp .ge 47, 3) := by decide +kernel
theorem dX9_pieces_26 : decode cX9_pieces 26 = .ok (.aload_n 0, 1) := by decide +kernel
theorem dX9_pieces_27 : decode cX9_pieces 27 = .ok (.getfield 13, 3) := by decide +kernel
theorem dX9_pieces_30 : decode cX9_pieces 30 = .ok (.sipush 538, 3) := by decide +kernel
theorem dX9_pieces_33 : decode cX9_pieces 33 = .ok (.iload_n 3, 1) := by decide +kernel
theorem dX9_pieces_34 : decode cX9_pieces 34 = .ok (.iadd, 1) := by decide +kernel
theorem dX9_pieces_35 : decode cX9_pieces 35 = .ok (.iaload, 1) := by decide +kernel
theorem dX9_pieces_36 : decode cX9_pieces 36 = .ok (.iload_n 1, 1) := by decide +kernel
theorem dX9_pieces_37 : decode cX9_pieces 37 = .ok (.if_icmp .ne 27, 3) := by decide +kernel
theorem dX9_pieces_40 : decode cX9_pieces 40 = .ok (.iload_n 3, 1) := by decide +kernel
theorem dX9_pieces_41 : decode cX9_pieces 41 = .ok (.ifCond .eq 19, 3) := by decide +kernel
theorem dX9_pieces_44 : decode cX9_pieces 44 = .ok (.aload_n 0, 1) := by decide +kernel
theorem dX9_pieces_45 : decode cX9_pieces 45 = .ok (.getfield 13, 3) := by decide +kernel
theorem dX9_pieces_48 : decode cX9_pieces 48 = .ok (.sipush 538, 3) := by decide +kernel
theorem dX9_pieces_51 : decode cX9_pieces 51 = .ok (.iload_n 3, 1) := by decide +kernel
theorem dX9_pieces_52 : decode cX9_pieces 52 = .ok (.iadd, 1) := by decide +kernel
theorem dX9_pieces_53 : decode cX9_pieces 53 = .ok (.iconst 1, 1) := by decide +kernel
theorem dX9_pieces_54 : decode cX9_pieces 54 = .ok (.isub, 1) := by decide +kernel
theorem dX9_pieces_55 : decode cX9_pieces 55 = .ok (.iaload, 1) := by decide +kernel
theorem dX9_pieces_56 : decode cX9_pieces 56 = .ok (.iload_n 1, 1) := by decide +kernel
theorem dX9_pieces_57 : decode cX9_pieces 57 = .ok (.if_icmp .eq 7, 3) := by decide +kernel
theorem dX9_pieces_60 : decode cX9_pieces 60 = .ok (.iload_n 2, 1) := by decide +kernel
theorem dX9_pieces_61 : decode cX9_pieces 61 = .ok (.iconst 1, 1) := by decide +kernel
theorem dX9_pieces_62 : decode cX9_pieces 62 = .ok (.iadd, 1) := by decide +kernel
theorem dX9_pieces_63 : decode cX9_pieces 63 = .ok (.istore_n 2, 1) := by decide +kernel
theorem dX9_pieces_64 : decode cX9_pieces 64 = .ok (.iinc 3 1, 3) := by decide +kernel
theorem dX9_pieces_67 : decode cX9_pieces 67 = .ok (.goto (-49), 3) := by decide +kernel
theorem dX9_pieces_70 : decode cX9_pieces 70 = .ok (.iload_n 2, 1) := by decide +kernel
theorem dX9_pieces_71 : decode cX9_pieces 71 = .ok (.ireturn, 1) := by decide +kernel
theorem dX9_longestFree_0 : decode cX9_longestFree 0 = .ok (.aload_n 0, 1) := by decide +kernel
theorem dX9_longestFree_1 : decode cX9_longestFree 1 = .ok (.iconst 0, 1) := by decide +kernel
theorem dX9_longestFree_2 : decode cX9_longestFree 2 = .ok (.putfield 67, 3) := by decide +kernel
theorem dX9_longestFree_5 : decode cX9_longestFree 5 = .ok (.iconst 0, 1) := by decide +kernel
theorem dX9_longestFree_6 : decode cX9_longestFree 6 = .ok (.istore_n 1, 1) := by decide +kernel
theorem dX9_longestFree_7 : decode cX9_longestFree 7 = .ok (.iconst 0, 1) := by decide +kernel
theorem dX9_longestFree_8 : decode cX9_longestFree 8 = .ok (.istore_n 2, 1) := by decide +kernel
theorem dX9_longestFree_9 : decode cX9_longestFree 9 = .ok (.iconst 0, 1) := by decide +kernel
theorem dX9_longestFree_10 : decode cX9_longestFree 10 = .ok (.istore_n 3, 1) := by decide +kernel
theorem dX9_longestFree_11 : decode cX9_longestFree 11 = .ok (.iload_n 3, 1) := by decide +kernel
theorem dX9_longestFree_12 : decode cX9_longestFree 12 = .ok (.aload_n 0, 1) := by decide +kernel
theorem dX9_longestFree_13 : decode cX9_longestFree 13 = .ok (.getfield 100, 3) := by decide +kernel
theorem dX9_longestFree_16 : decode cX9_longestFree 16 = .ok (.if_icmp .ge 37, 3) := by decide +kernel
theorem dX9_longestFree_19 : decode cX9_longestFree 19 = .ok (.aload_n 0, 1) := by decide +kernel
theorem dX9_longestFree_20 : decode cX9_longestFree 20 = .ok (.getfield 13, 3) := by decide +kernel
theorem dX9_longestFree_23 : decode cX9_longestFree 23 = .ok (.sipush 538, 3) := by decide +kernel
theorem dX9_longestFree_26 : decode cX9_longestFree 26 = .ok (.iload_n 3, 1) := by decide +kernel
theorem dX9_longestFree_27 : decode cX9_longestFree 27 = .ok (.iadd, 1) := by decide +kernel
theorem dX9_longestFree_28 : decode cX9_longestFree 28 = .ok (.iaload, 1) := by decide +kernel
theorem dX9_longestFree_29 : decode cX9_longestFree 29 = .ok (.iconst (-1), 1) := by decide +kernel
theorem dX9_longestFree_30 : decode cX9_longestFree 30 = .ok (.if_icmp .ne 9, 3) := by decide +kernel
theorem dX9_longestFree_33 : decode cX9_longestFree 33 = .ok (.iload_n 2, 1) := by decide +kernel
theorem dX9_longestFree_34 : decode cX9_longestFree 34 = .ok (.iconst 1, 1) := by decide +kernel
theorem dX9_longestFree_35 : decode cX9_longestFree 35 = .ok (.iadd, 1) := by decide +kernel
theorem dX9_longestFree_36 : decode cX9_longestFree 36 = .ok (.goto 4, 3) := by decide +kernel
theorem dX9_longestFree_39 : decode cX9_longestFree 39 = .ok (.iconst 0, 1) := by decide +kernel
theorem dX9_longestFree_40 : decode cX9_longestFree 40 = .ok (.istore_n 2, 1) := by decide +kernel
theorem dX9_longestFree_41 : decode cX9_longestFree 41 = .ok (.iload_n 1, 1) := by decide +kernel
theorem dX9_longestFree_42 : decode cX9_longestFree 42 = .ok (.iload_n 2, 1) := by decide +kernel
theorem dX9_longestFree_43 : decode cX9_longestFree 43 = .ok (.invokestatic 96, 3) := by decide +kernel
theorem dX9_longestFree_46 : decode cX9_longestFree 46 = .ok (.istore_n 1, 1) := by decide +kernel
theorem dX9_longestFree_47 : decode cX9_longestFree 47 = .ok (.iinc 3 1, 3) := by decide +kernel
theorem dX9_longestFree_50 : decode cX9_longestFree 50 = .ok (.goto (-39), 3) := by decide +kernel
theorem dX9_longestFree_53 : decode cX9_longestFree 53 = .ok (.iload_n 1, 1) := by decide +kernel
theorem dX9_longestFree_54 : decode cX9_longestFree 54 = .ok (.ireturn, 1) := by decide +kernel
theorem dX9_claim_0 : decode cX9_claim 0 = .ok (.aload_n 0, 1) := by decide +kernel
theorem dX9_claim_1 : decode cX9_claim 1 = .ok (.aload_n 0, 1) := by decide +kernel
theorem dX9_claim_2 : decode cX9_claim 2 = .ok (.iload_n 1, 1) := by decide +kernel
theorem dX9_claim_3 : decode cX9_claim 3 = .ok (.invokevirtual 232, 3) := by decide +kernel
theorem dX9_claim_6 : decode cX9_claim 6 = .ok (.ifCond .eq 19, 3) := by decide +kernel
theorem dX9_claim_9 : decode cX9_claim 9 = .ok (.iload_n 2, 1) := by decide +kernel
theorem dX9_claim_10 : decode cX9_claim 10 = .ok (.i2l, 1) := by decide +kernel
theorem dX9_claim_11 : decode cX9_claim 11 = .ok (.lconst 0, 1) := by decide +kernel
theorem dX9_claim_12 : decode cX9_claim 12 = .ok (.ldc2_w 295, 3) := by decide +kernel
theorem dX9_claim_15 : decode cX9_claim 15 = .ok (.invokestatic 92, 3) := by decide +kernel
theorem dX9_claim_18 : decode cX9_claim 18 = .ok (.ifCond .eq 7, 3) := by decide +kernel
theorem dX9_claim_21 : decode cX9_claim 21 = .ok (.iconst 1, 1) := by decide +kernel
theorem dX9_claim_22 : decode cX9_claim 22 = .ok (.goto 4, 3) := by decide +kernel
theorem dX9_claim_25 : decode cX9_claim 25 = .ok (.iconst 0, 1) := by decide +kernel
theorem dX9_claim_26 : decode cX9_claim 26 = .ok (.invokevirtual 77, 3) := by decide +kernel
theorem dX9_claim_29 : decode cX9_claim 29 = .ok (.ifCond .eq 12, 3) := by decide +kernel
theorem dX9_claim_32 : decode cX9_claim 32 = .ok (.aload_n 0, 1) := by decide +kernel
theorem dX9_claim_33 : decode cX9_claim 33 = .ok (.iload_n 1, 1) := by decide +kernel
theorem dX9_claim_34 : decode cX9_claim 34 = .ok (.iload_n 2, 1) := by decide +kernel
theorem dX9_claim_35 : decode cX9_claim 35 = .ok (.invokevirtual 139, 3) := by decide +kernel
theorem dX9_claim_38 : decode cX9_claim 38 = .ok (.goto 4, 3) := by decide +kernel
theorem dX9_claim_41 : decode cX9_claim 41 = .ok (.iconst 0, 1) := by decide +kernel
theorem dX9_claim_42 : decode cX9_claim 42 = .ok (.ireturn, 1) := by decide +kernel
theorem dX9_waiting_0 : decode cX9_waiting 0 = .ok (.aload_n 0, 1) := by decide +kernel
theorem dX9_waiting_1 : decode cX9_waiting 1 = .ok (.invokevirtual 181, 3) := by decide +kernel
theorem dX9_waiting_4 : decode cX9_waiting 4 = .ok (.istore_n 2, 1) := by decide +kernel
theorem dX9_waiting_5 : decode cX9_waiting 5 = .ok (.aload_n 0, 1) := by decide +kernel
theorem dX9_waiting_6 : decode cX9_waiting 6 = .ok (.iload_n 1, 1) := by decide +kernel
theorem dX9_waiting_7 : decode cX9_waiting 7 = .ok (.i2l, 1) := by decide +kernel
theorem dX9_waiting_8 : decode cX9_waiting 8 = .ok (.lconst 0, 1) := by decide +kernel
theorem dX9_waiting_9 : decode cX9_waiting 9 = .ok (.iload_n 2, 1) := by decide +kernel
theorem dX9_waiting_10 : decode cX9_waiting 10 = .ok (.iconst 1, 1) := by decide +kernel
theorem dX9_waiting_11 : decode cX9_waiting 11 = .ok (.isub, 1) := by decide +kernel
theorem dX9_waiting_12 : decode cX9_waiting 12 = .ok (.i2l, 1) := by decide +kernel
theorem dX9_waiting_13 : decode cX9_waiting 13 = .ok (.invokestatic 92, 3) := by decide +kernel
theorem dX9_waiting_16 : decode cX9_waiting 16 = .ok (.invokevirtual 77, 3) := by decide +kernel
theorem dX9_waiting_19 : decode cX9_waiting 19 = .ok (.ifCond .eq 12, 3) := by decide +kernel
theorem dX9_waiting_22 : decode cX9_waiting 22 = .ok (.aload_n 0, 1) := by decide +kernel
theorem dX9_waiting_23 : decode cX9_waiting 23 = .ok (.getfield 39, 3) := by decide +kernel
theorem dX9_waiting_26 : decode cX9_waiting 26 = .ok (.iload_n 1, 1) := by decide +kernel
theorem dX9_waiting_27 : decode cX9_waiting 27 = .ok (.iaload, 1) := by decide +kernel
theorem dX9_waiting_28 : decode cX9_waiting 28 = .ok (.goto 4, 3) := by decide +kernel
theorem dX9_waiting_31 : decode cX9_waiting 31 = .ok (.iconst 0, 1) := by decide +kernel
theorem dX9_waiting_32 : decode cX9_waiting 32 = .ok (.ireturn, 1) := by decide +kernel
theorem dX9_fine_0 : decode cX9_fine 0 = .ok (.aload_n 0, 1) := by decide +kernel
theorem dX9_fine_1 : decode cX9_fine 1 = .ok (.iload_n 2, 1) := by decide +kernel
theorem dX9_fine_2 : decode cX9_fine 2 = .ok (.i2l, 1) := by decide +kernel
theorem dX9_fine_3 : decode cX9_fine 3 = .ok (.lconst 0, 1) := by decide +kernel
theorem dX9_fine_4 : decode cX9_fine 4 = .ok (.ldc2_w 293, 3) := by decide +kernel
theorem dX9_fine_7 : decode cX9_fine 7 = .ok (.invokestatic 92, 3) := by decide +kernel
theorem dX9_fine_10 : decode cX9_fine 10 = .ok (.invokevirtual 77, 3) := by decide +kernel
theorem dX9_fine_13 : decode cX9_fine 13 = .ok (.ifCond .eq 16, 3) := by decide +kernel
theorem dX9_fine_16 : decode cX9_fine 16 = .ok (.aload_n 0, 1) := by decide +kernel
theorem dX9_fine_17 : decode cX9_fine 17 = .ok (.aload_n 0, 1) := by decide +kernel
theorem dX9_fine_18 : decode cX9_fine 18 = .ok (.iload_n 1, 1) := by decide +kernel
theorem dX9_fine_19 : decode cX9_fine 19 = .ok (.invokevirtual 260, 3) := by decide +kernel
theorem dX9_fine_22 : decode cX9_fine 22 = .ok (.iconst 2, 1) := by decide +kernel
theorem dX9_fine_23 : decode cX9_fine 23 = .ok (.invokevirtual 210, 3) := by decide +kernel
theorem dX9_fine_26 : decode cX9_fine 26 = .ok (.ifCond .ne 5, 3) := by decide +kernel
theorem dX9_fine_29 : decode cX9_fine 29 = .ok (.iconst 0, 1) := by decide +kernel
theorem dX9_fine_30 : decode cX9_fine 30 = .ok (.ireturn, 1) := by decide +kernel
theorem dX9_fine_31 : decode cX9_fine 31 = .ok (.aload_n 0, 1) := by decide +kernel
theorem dX9_fine_32 : decode cX9_fine 32 = .ok (.iload_n 1, 1) := by decide +kernel
theorem dX9_fine_33 : decode cX9_fine 33 = .ok (.iload_n 2, 1) := by decide +kernel
theorem dX9_fine_34 : decode cX9_fine 34 = .ok (.invokevirtual 244, 3) := by decide +kernel
theorem dX9_fine_37 : decode cX9_fine 37 = .ok (.ireturn, 1) := by decide +kernel
theorem dX9_evidence_0 : decode cX9_evidence 0 = .ok (.aload_n 0, 1) := by decide +kernel
theorem dX9_evidence_1 : decode cX9_evidence 1 = .ok (.aload_n 0, 1) := by decide +kernel
theorem dX9_evidence_2 : decode cX9_evidence 2 = .ok (.iload_n 1, 1) := by decide +kernel
theorem dX9_evidence_3 : decode cX9_evidence 3 = .ok (.invokevirtual 260, 3) := by decide +kernel
theorem dX9_evidence_6 : decode cX9_evidence 6 = .ok (.invokevirtual 77, 3) := by decide +kernel
theorem dX9_evidence_9 : decode cX9_evidence 9 = .ok (.ifCond .eq 11, 3) := by decide +kernel
theorem dX9_evidence_12 : decode cX9_evidence 12 = .ok (.aload_n 0, 1) := by decide +kernel
theorem dX9_evidence_13 : decode cX9_evidence 13 = .ok (.iload_n 1, 1) := by decide +kernel
theorem dX9_evidence_14 : decode cX9_evidence 14 = .ok (.invokevirtual 257, 3) := by decide +kernel
theorem dX9_evidence_17 : decode cX9_evidence 17 = .ok (.goto 4, 3) := by decide +kernel
theorem dX9_evidence_20 : decode cX9_evidence 20 = .ok (.iconst 0, 1) := by decide +kernel
theorem dX9_evidence_21 : decode cX9_evidence 21 = .ok (.ireturn, 1) := by decide +kernel
theorem dX9_wasStalled_0 : decode cX9_wasStalled 0 = .ok (.aload_n 0, 1) := by decide +kernel
theorem dX9_wasStalled_1 : decode cX9_wasStalled 1 = .ok (.aload_n 0, 1) := by decide +kernel
theorem dX9_wasStalled_2 : decode cX9_wasStalled 2 = .ok (.iload_n 1, 1) := by decide +kernel
theorem dX9_wasStalled_3 : decode cX9_wasStalled 3 = .ok (.invokevirtual 223, 3) := by decide +kernel
theorem dX9_wasStalled_6 : decode cX9_wasStalled 6 = .ok (.invokevirtual 77, 3) := by decide +kernel
theorem dX9_wasStalled_9 : decode cX9_wasStalled 9 = .ok (.ifCond .eq 32, 3) := by decide +kernel
theorem dX9_wasStalled_12 : decode cX9_wasStalled 12 = .ok (.iload_n 2, 1) := by decide +kernel
theorem dX9_wasStalled_13 : decode cX9_wasStalled 13 = .ok (.i2l, 1) := by decide +kernel
theorem dX9_wasStalled_14 : decode cX9_wasStalled 14 = .ok (.lconst 1, 1) := by decide +kernel
theorem dX9_wasStalled_15 : decode cX9_wasStalled 15 = .ok (.aload_n 0, 1) := by decide +kernel
theorem dX9_wasStalled_16 : decode cX9_wasStalled 16 = .ok (.getfield 13, 3) := by decide +kernel
theorem dX9_wasStalled_19 : decode cX9_wasStalled 19 = .ok (.iconst 0, 1) := by decide +kernel
theorem dX9_wasStalled_20 : decode cX9_wasStalled 20 = .ok (.iaload, 1) := by decide +kernel
theorem dX9_wasStalled_21 : decode cX9_wasStalled 21 = .ok (.i2l, 1) := by decide +kernel
theorem dX9_wasStalled_22 : decode cX9_wasStalled 22 = .ok (.invokestatic 92, 3) := by decide +kernel
theorem dX9_wasStalled_25 : decode cX9_wasStalled 25 = .ok (.ifCond .eq 16, 3) := by decide +kernel
theorem dX9_wasStalled_28 : decode cX9_wasStalled 28 = .ok (.aload_n 0, 1) := by decide +kernel
theorem dX9_wasStalled_29 : decode cX9_wasStalled 29 = .ok (.iload_n 1, 1) := by decide +kernel
theorem dX9_wasStalled_30 : decode cX9_wasStalled 30 = .ok (.iload_n 2, 1) := by decide +kernel
theorem dX9_wasStalled_31 : decode cX9_wasStalled 31 = .ok (.invokevirtual 247, 3) := by decide +kernel
theorem dX9_wasStalled_34 : decode cX9_wasStalled 34 = .ok (.ifCond .eq 7, 3) := by decide +kernel
theorem dX9_wasStalled_37 : decode cX9_wasStalled 37 = .ok (.iconst 1, 1) := by decide +kernel
theorem dX9_wasStalled_38 : decode cX9_wasStalled 38 = .ok (.goto 4, 3) := by decide +kernel
theorem dX9_wasStalled_41 : decode cX9_wasStalled 41 = .ok (.iconst 0, 1) := by decide +kernel
theorem dX9_wasStalled_42 : decode cX9_wasStalled 42 = .ok (.ireturn, 1) := by decide +kernel
theorem dX9_nextHearing_0 : decode cX9_nextHearing 0 = .ok (.aload_n 0, 1) := by decide +kernel
theorem dX9_nextHearing_1 : decode cX9_nextHearing 1 = .ok (.iconst 0, 1) := by decide +kernel
theorem dX9_nextHearing_2 : decode cX9_nextHearing 2 = .ok (.putfield 67, 3) := by decide +kernel
theorem dX9_nextHearing_5 : decode cX9_nextHearing 5 = .ok (.aload_n 0, 1) := by decide +kernel
theorem dX9_nextHearing_6 : decode cX9_nextHearing 6 = .ok (.invokevirtual 297, 3) := by decide +kernel
theorem dX9_nextHearing_9 : decode cX9_nextHearing 9 = .ok (.ireturn, 1) := by decide +kernel
theorem dX9_shortage_0 : decode cX9_shortage 0 = .ok (.aload_n 0, 1) := by decide +kernel
theorem dX9_shortage_1 : decode cX9_shortage 1 = .ok (.iconst 0, 1) := by decide +kernel
theorem dX9_shortage_2 : decode cX9_shortage 2 = .ok (.putfield 67, 3) := by decide +kernel
theorem dX9_shortage_5 : decode cX9_shortage 5 = .ok (.iconst 0, 1) := by decide +kernel
theorem dX9_shortage_6 : decode cX9_shortage 6 = .ok (.istore_n 1, 1) := by decide +kernel
theorem dX9_shortage_7 : decode cX9_shortage 7 = .ok (.iconst 0, 1) := by decide +kernel
theorem dX9_shortage_8 : decode cX9_shortage 8 = .ok (.istore_n 2, 1) := by decide +kernel
theorem dX9_shortage_9 : decode cX9_shortage 9 = .ok (.iload_n 2, 1) := by decide +kernel
theorem dX9_shortage_10 : decode cX9_shortage 10 = .ok (.aload_n 0, 1) := by decide +kernel
theorem dX9_shortage_11 : decode cX9_shortage 11 = .ok (.getfield 13, 3) := by decide +kernel
theorem dX9_shortage_14 : decode cX9_shortage 14 = .ok (.bipush 7, 2) := by decide +kernel
theorem dX9_shortage_16 : decode cX9_shortage 16 = .ok (.iaload, 1) := by decide +kernel
theorem dX9_shortage_17 : decode cX9_shortage 17 = .ok (.if_icmp .ge 26, 3) := by decide +kernel
theorem dX9_shortage_20 : decode cX9_shortage 20 = .ok (.aload_n 0, 1) := by decide +kernel
theorem dX9_shortage_21 : decode cX9_shortage 21 = .ok (.iload_n 2, 1) := by decide +kernel
theorem dX9_shortage_22 : decode cX9_shortage 22 = .ok (.invokevirtual 142, 3) := by decide +kernel
theorem dX9_shortage_25 : decode cX9_shortage 25 = .ok (.ifCond .eq 12, 3) := by decide +kernel
theorem dX9_shortage_28 : decode cX9_shortage 28 = .ok (.iload_n 1, 1) := by decide +kernel
theorem dX9_shortage_29 : decode cX9_shortage 29 = .ok (.aload_n 0, 1) := by decide +kernel
theorem dX9_shortage_30 : decode cX9_shortage 30 = .ok (.iload_n 2, 1) := by decide +kernel
theorem dX9_shortage_31 : decode cX9_shortage 31 = .ok (.iconst 1, 1) := by decide +kernel
theorem dX9_shortage_32 : decode cX9_shortage 32 = .ok (.invokevirtual 139, 3) := by decide +kernel
theorem dX9_shortage_35 : decode cX9_shortage 35 = .ok (.iadd, 1) := by decide +kernel
theorem dX9_shortage_36 : decode cX9_shortage 36 = .ok (.istore_n 1, 1) := by decide +kernel
theorem dX9_shortage_37 : decode cX9_shortage 37 = .ok (.iinc 2 1, 3) := by decide +kernel
theorem dX9_shortage_40 : decode cX9_shortage 40 = .ok (.goto (-31), 3) := by decide +kernel
theorem dX9_shortage_43 : decode cX9_shortage 43 = .ok (.iconst 0, 1) := by decide +kernel
theorem dX9_shortage_44 : decode cX9_shortage 44 = .ok (.iload_n 1, 1) := by decide +kernel
theorem dX9_shortage_45 : decode cX9_shortage 45 = .ok (.aload_n 0, 1) := by decide +kernel
theorem dX9_shortage_46 : decode cX9_shortage 46 = .ok (.invokevirtual 166, 3) := by decide +kernel
theorem dX9_shortage_49 : decode cX9_shortage 49 = .ok (.isub, 1) := by decide +kernel
theorem dX9_shortage_50 : decode cX9_shortage 50 = .ok (.invokestatic 96, 3) := by decide +kernel
theorem dX9_shortage_53 : decode cX9_shortage 53 = .ok (.ireturn, 1) := by decide +kernel
theorem dX9_overdue_0 : decode cX9_overdue 0 = .ok (.aload_n 0, 1) := by decide +kernel
theorem dX9_overdue_1 : decode cX9_overdue 1 = .ok (.iconst 0, 1) := by decide +kernel
theorem dX9_overdue_2 : decode cX9_overdue 2 = .ok (.putfield 67, 3) := by decide +kernel
theorem dX9_overdue_5 : decode cX9_overdue 5 = .ok (.aload_n 0, 1) := by decide +kernel
theorem dX9_overdue_6 : decode cX9_overdue 6 = .ok (.invokevirtual 169, 3) := by decide +kernel
theorem dX9_overdue_9 : decode cX9_overdue 9 = .ok (.ireturn, 1) := by decide +kernel
theorem dX9_firstBroken_0 : decode cX9_firstBroken 0 = .ok (.aload_n 0, 1) := by decide +kernel
theorem dX9_firstBroken_1 : decode cX9_firstBroken 1 = .ok (.iconst 0, 1) := by decide +kernel
theorem dX9_firstBroken_2 : decode cX9_firstBroken 2 = .ok (.putfield 67, 3) := by decide +kernel
theorem dX9_firstBroken_5 : decode cX9_firstBroken 5 = .ok (.aload_n 0, 1) := by decide +kernel
theorem dX9_firstBroken_6 : decode cX9_firstBroken 6 = .ok (.invokevirtual 151, 3) := by decide +kernel
theorem dX9_firstBroken_9 : decode cX9_firstBroken 9 = .ok (.ireturn, 1) := by decide +kernel
theorem dX9_worst_0 : decode cX9_worst 0 = .ok (.aload_n 0, 1) := by decide +kernel
theorem dX9_worst_1 : decode cX9_worst 1 = .ok (.iconst 0, 1) := by decide +kernel
theorem dX9_worst_2 : decode cX9_worst 2 = .ok (.putfield 67, 3) := by decide +kernel
theorem dX9_worst_5 : decode cX9_worst 5 = .ok (.iconst (-1), 1) := by decide +kernel
theorem dX9_worst_6 : decode cX9_worst 6 = .ok (.istore_n 1, 1) := by decide +kernel
theorem dX9_worst_7 : decode cX9_worst 7 = .ok (.iconst 0, 1) := by decide +kernel
theorem dX9_worst_8 : decode cX9_worst 8 = .ok (.istore_n 2, 1) := by decide +kernel
theorem dX9_worst_9 : decode cX9_worst 9 = .ok (.iload_n 2, 1) := by decide +kernel
theorem dX9_worst_10 : decode cX9_worst 10 = .ok (.aload_n 0, 1) := by decide +kernel
theorem dX9_worst_11 : decode cX9_worst 11 = .ok (.getfield 89, 3) := by decide +kernel
theorem dX9_worst_14 : decode cX9_worst 14 = .ok (.if_icmp .ge 35, 3) := by decide +kernel
theorem dX9_worst_17 : decode cX9_worst 17 = .ok (.aload_n 0, 1) := by decide +kernel
theorem dX9_worst_18 : decode cX9_worst 18 = .ok (.iload_n 2, 1) := by decide +kernel
theorem dX9_worst_19 : decode cX9_worst 19 = .ok (.iconst 0, 1) := by decide +kernel
theorem dX9_worst_20 : decode cX9_worst 20 = .ok (.invokevirtual 120, 3) := by decide +kernel
theorem dX9_worst_23 : decode cX9_worst 23 = .ok (.iload_n 1, 1) := by decide +kernel
theorem dX9_worst_24 : decode cX9_worst 24 = .ok (.iconst (-1), 1) := by decide +kernel
theorem dX9_worst_25 : decode cX9_worst 25 = .ok (.if_icmp .ne 7, 3) := by decide +kernel
theorem dX9_worst_28 : decode cX9_worst 28 = .ok (.iconst 0, 1) := by decide +kernel
theorem dX9_worst_29 : decode cX9_worst 29 = .ok (.goto 9, 3) := by decide +kernel
theorem dX9_worst_32 : decode cX9_worst 32 = .ok (.aload_n 0, 1) := by decide +kernel
theorem dX9_worst_33 : decode cX9_worst 33 = .ok (.iload_n 1, 1) := by decide +kernel
theorem dX9_worst_34 : decode cX9_worst 34 = .ok (.iconst 0, 1) := by decide +kernel
theorem dX9_worst_35 : decode cX9_worst 35 = .ok (.invokevirtual 120, 3) := by decide +kernel
theorem dX9_worst_38 : decode cX9_worst 38 = .ok (.if_icmp .le 5, 3) := by decide +kernel
theorem dX9_worst_41 : decode cX9_worst 41 = .ok (.iload_n 2, 1) := by decide +kernel
theorem dX9_worst_42 : decode cX9_worst 42 = .ok (.istore_n 1, 1) := by decide +kernel
theorem dX9_worst_43 : decode cX9_worst 43 = .ok (.iinc 2 1, 3) := by decide +kernel
theorem dX9_worst_46 : decode cX9_worst 46 = .ok (.goto (-37), 3) := by decide +kernel
theorem dX9_worst_49 : decode cX9_worst 49 = .ok (.iload_n 1, 1) := by decide +kernel
theorem dX9_worst_50 : decode cX9_worst 50 = .ok (.ireturn, 1) := by decide +kernel
def j_X9_run_31 (n : Nat) (v1_0 : Int32) (th_j31 : OS) (s1_j31 : Int32) : Option (OS × Int32) :=
  bnd2 (f_X9_may n th_j31 s1_j31 (2 : Int32)) (fun (th_5 : OS) (r_6 : Int32) =>
  if r_6 = 0 then (
  some (th_5, (0 : Int32))) else (
  bnd (f_X9_starts n th_5) (fun (th_7 : OS) =>
  bnd2 (f_X9_goesOn n th_7 v1_0) (fun (th_8 : OS) (r_9 : Int32) =>
  bnd2 (f_X9_done n th_8 r_9) (fun (th_10 : OS) (r_11 : Int32) =>
  some (th_10, r_11))))))
def f_X9_run (n : Nat) (th_0 : OS) (v1_0 : Int32) : Option (OS × Int32) :=
  bnd (f_X9_areTicks n v1_0) (fun (r_1 : Int32) =>
  bnd2 (f_X9_is n th_0 r_1) (fun (th_2 : OS) (r_3 : Int32) =>
  if r_3 = 0 then (
  some (th_2, (0 : Int32))) else (
  gI 1846 (0 : Int32) (Let ((th_2.2.1 9) (0 : Int32).toNatClampNeg) (fun x_4 : Int32 =>
  if (2000 : Int32) < (x_4 + v1_0) then (
  j_X9_run_31 n v1_0 th_2 (0 : Int32)) else (
  j_X9_run_31 n v1_0 th_2 (1 : Int32)))))))
set_option maxHeartbeats 4000000 in
set_option maxRecDepth 100000 in
theorem c_X9_run (n : Nat) (l : Launch) (k : KT) (a_th : Nat → Nat) (th_0 : OS) (v1_0 : Int32) (res : (OS × Int32)) (hf : f_X9_run n th_0 v1_0 = some res) : CG l k yX9_run cX9_run 2 (some .int) 8 0 0 179 [.ref (a_th 0), .int v1_0] (wModel k a_th th_0) (Qi k (fun u : OS => wModel k a_th u) (fun (r : Int32) (u : OS) => res = (u, r))) := by
  refine CG.ofI (by decide) (Nat.le_of_ble_eq_true rfl) (fun p e s m args below meth c A Q E hnm hW hA hret ls hl => ?_)
  have hl : lv_has ls 2 [(0, .ref (a_th 0)), (1, .int v1_0)] := hl
  unfold f_X9_run at hf
  refine k_aload_n E hl 0 dX9_run_0 rfl ?_
  refine k_iload_n E hl 1 dX9_run_1 rfl ?_
  obtain ⟨r_1, hg, hf⟩ := ob hf
  refine k_callSi (As := [.int v1_0]) (rest := [.ref (a_th 0)]) (ws2 := fun u => wModel k a_th th_0) (c_X9_areTicks n l k v1_0 r_1 hg) E sl_X9_207 dX9_run_2 rfl [] hW hA hl rfl rfl ⟨by decide, by decide⟩ ⟨by decide, by decide⟩ (Nat.le_of_ble_eq_true rfl) rfl (fun _ => rfl) (fun _ => rfl) (fun r u H locs hp hW => ?_)
  cases hp
  have hW : WD k A s.heap (wModel k a_th th_0) H locs := hW
  obtain ⟨th_2, r_3, hg, hf⟩ := ob2 hf
  refine k_callVi (As := [.int r_1]) (rest := []) (ws2 := fun u => wModel k a_th (u)) (c_X9_is n l k a_th th_0 r_1 (th_2, r_3) hg) E vl_X9_77 dX9_run_5 rfl [0, 1, 2, 3, 4, 5, 6, 7, 8, 9, 10, 11, 12] 7 0 hW hA hl rfl rfl rfl rfl ⟨by decide, by decide⟩ ⟨by decide, by decide⟩ (Nat.le_of_ble_eq_true rfl) rfl (fun _ => rfl) (fun _ => rfl) (fun r u H locs hp hW => ?_)
  cases hp
  have hW : WD k A s.heap (wModel k a_th th_2) H locs := hW
  refine lv_if_eq (tgt := 38) E.hx E.hb dX9_run_8 (by decide) (fun hc => ?_) (fun hc => ?_)
  · have hf := oT hc hf
    refine lv_iconst (v := (0 : Int32)) E.hx E.hb dX9_run_38 ic_0 ?_
    exact hret _ th_2 _ _ _ _ _ _ hW (Option.some.inj hf).symm rfl (by decide) (by decide) dX9_run_39
  · have hf := oF hc hf
    refine k_aload_n E hl 0 dX9_run_11 rfl ?_
    refine k_aload_n E hl 0 dX9_run_12 rfl ?_
    refine gf_X9_13 E hW 0 rfl rfl dX9_run_13 ?_
    refine lv_iconst (v := (0 : Int32)) E.hx E.hb dX9_run_16 ic_0 ?_
    obtain ⟨hin, hf⟩ := oI hf
    obtain ⟨x_4, ex_4, hf⟩ := oL hf
    refine k_iald E hW 2 rfl hin dX9_run_17 ?_
    refine k_topi ex_4 ?_
    refine k_iload_n E hl 1 dX9_run_18 rfl ?_
    refine lv_iadd E.hx E.hb dX9_run_19 ?_
    refine lv_sipush (v := (2000 : Int32)) E.hx E.hb dX9_run_20 sp_2000 ?_
    have J_31 : ∀ (th_j31 : OS) (s1_j31 : Int32) (H : Heap) (locs : List Loc) (ls : Array Slot) (hW : WD k A s.heap (wModel k a_th th_j31) H locs) (hl : lv_has ls 2 [(0, .ref (a_th 0)), (1, .int v1_0)]) (hf : j_X9_run_31 n v1_0 th_j31 s1_j31 = some res), W p l e { frames := 8, cells := 0, slots := 0, locals := 179 } s m args below meth c H locs 0 0 Q (F0 m 31 ls [.int s1_j31, .ref (a_th 0)]) := by
      intro th_j31 s1_j31 H locs ls hW hl hf
      unfold j_X9_run_31 at hf
      refine lv_iconst (v := (2 : Int32)) E.hx E.hb dX9_run_31 ic_2 ?_
      obtain ⟨th_5, r_6, hg, hf⟩ := ob2 hf
      refine k_callVi (As := [.int s1_j31, .int (2 : Int32)]) (rest := []) (ws2 := fun u => wModel k a_th (u)) (c_X9_may n l k a_th th_j31 s1_j31 (2 : Int32) (th_5, r_6) hg) E vl_X9_210 dX9_run_32 rfl [0, 1, 2, 3, 4, 5, 6, 7, 8, 9, 10, 11, 12] 7 0 hW hA hl rfl rfl rfl rfl ⟨by decide, by decide⟩ ⟨by decide, by decide⟩ (Nat.le_of_ble_eq_true rfl) rfl (fun _ => rfl) (fun _ => rfl) (fun r u H locs hp hW => ?_)
      cases hp
      have hW : WD k A s.heap (wModel k a_th th_5) H locs := hW
      refine lv_if_ne (tgt := 40) E.hx E.hb dX9_run_35 (by decide) (fun hc => ?_) (fun hc => ?_)
      · have hf := oF hc hf
        refine k_aload_n E hl 0 dX9_run_40 rfl ?_
        obtain ⟨th_7, hg, hf⟩ := ob hf
        refine k_callVv (As := []) (rest := []) (ws2 := fun u => wModel k a_th (u)) (c_X9_starts n l k a_th th_5 th_7 hg) E vl_X9_214 dX9_run_41 rfl [0, 1, 2, 3, 4, 5, 6, 7, 8, 9, 10, 11, 12] 7 0 hW hA hl rfl rfl rfl rfl ⟨by decide, by decide⟩ ⟨by decide, by decide⟩ (Nat.le_of_ble_eq_true rfl) rfl (fun _ => rfl) (fun _ => rfl) (fun u H locs hp hW => ?_)
        cases hp
        have hW : WD k A s.heap (wModel k a_th th_7) H locs := hW
        refine k_aload_n E hl 0 dX9_run_44 rfl ?_
        refine k_aload_n E hl 0 dX9_run_45 rfl ?_
        refine k_iload_n E hl 1 dX9_run_46 rfl ?_
        obtain ⟨th_8, r_9, hg, hf⟩ := ob2 hf
        refine k_callVi (As := [.int v1_0]) (rest := [.ref (a_th 0)]) (ws2 := fun u => wModel k a_th (u)) (c_X9_goesOn n l k a_th th_7 v1_0 (th_8, r_9) hg) E vl_X9_217 dX9_run_47 rfl [0, 1, 2, 3, 4, 5, 6, 7, 8, 9, 10, 11, 12] 7 0 hW hA hl rfl rfl rfl rfl ⟨by decide, by decide⟩ ⟨by decide, by decide⟩ (Nat.le_of_ble_eq_true rfl) rfl (fun _ => rfl) (fun _ => rfl) (fun r u H locs hp hW => ?_)
        cases hp
        have hW : WD k A s.heap (wModel k a_th th_8) H locs := hW
        obtain ⟨th_10, r_11, hg, hf⟩ := ob2 hf
        refine k_callVi (As := [.int r_9]) (rest := []) (ws2 := fun u => wModel k a_th (u)) (c_X9_done n l k a_th th_8 r_9 (th_10, r_11) hg) E vl_X9_220 dX9_run_50 rfl [0, 1, 2, 3, 4, 5, 6, 7, 8, 9, 10, 11, 12] 7 0 hW hA hl rfl rfl rfl rfl ⟨by decide, by decide⟩ ⟨by decide, by decide⟩ (Nat.le_of_ble_eq_true rfl) rfl (fun _ => rfl) (fun _ => rfl) (fun r u H locs hp hW => ?_)
        cases hp
        have hW : WD k A s.heap (wModel k a_th th_10) H locs := hW
        exact hret _ th_10 _ _ _ _ _ _ hW (Option.some.inj hf).symm rfl (by decide) (by decide) dX9_run_53
      · have hf := oT hc hf
        refine lv_iconst (v := (0 : Int32)) E.hx E.hb dX9_run_38 ic_0 ?_
        exact hret _ th_5 _ _ _ _ _ _ hW (Option.some.inj hf).symm rfl (by decide) (by decide) dX9_run_39
    refine lv_icmp_gt (tgt := 30) E.hx E.hb dX9_run_23 (by decide) (fun hc => ?_) (fun hc => ?_)
    · have hf := oT hc hf
      refine lv_iconst (v := (0 : Int32)) E.hx E.hb dX9_run_30 ic_0 ?_
      exact J_31 th_2 (0 : Int32) _ _ _ hW (lv_sub hl [0, 1] rfl) hf
    · have hf := oF hc hf
      refine lv_iconst (v := (1 : Int32)) E.hx E.hb dX9_run_26 ic_1 ?_
      refine lv_goto (tgt := 31) E.hx E.hb dX9_run_27 (by decide) ?_
      exact J_31 th_2 (1 : Int32) _ _ _ hW (lv_sub hl [0, 1] rfl) hf
def j_X9_ask_71 (n : Nat) (v1_0 : Int32) (v2_0 : Int32) (v3_0 : Int32) (th_j71 : OS) (s1_j71 : Int32) : Option (OS × Int32) :=
  bnd2 (f_X9_may n th_j71 s1_j71 (3 : Int32)) (fun (th_8 : OS) (r_9 : Int32) =>
  if r_9 = 0 then (
  some (th_8, (0 : Int32))) else (
  bnd (f_X9_starts n th_8) (fun (th_10 : OS) =>
  bnd2 (f_X9_asks n 1846 (th_10.2.1 9) v1_0 v2_0 v3_0) (fun (y_11 : Nat → Int32) (r_12 : Int32) =>
  Let (sA th_10 9 y_11) (fun th_13 : OS =>
  bnd2 (f_X9_done n th_13 r_12) (fun (th_14 : OS) (r_15 : Int32) =>
  some (th_14, r_15)))))))
def j_X9_ask_44 (n : Nat) (v1_0 : Int32) (v2_0 : Int32) (v3_0 : Int32) (th_j44 : OS) (s1_j44 : Int32) : Option (OS × Int32) :=
  bnd2 (f_X9_may n th_j44 s1_j44 (2 : Int32)) (fun (th_5 : OS) (r_6 : Int32) =>
  if r_6 = 0 then (
  some (th_5, (0 : Int32))) else (
  gI 1846 (7 : Int32) (Let ((th_5.2.1 9) (7 : Int32).toNatClampNeg) (fun x_7 : Int32 =>
  if (60 : Int32) ≤ x_7 then (
  j_X9_ask_71 n v1_0 v2_0 v3_0 th_5 (0 : Int32)) else (
  j_X9_ask_71 n v1_0 v2_0 v3_0 th_5 (1 : Int32))))))
def f_X9_ask (n : Nat) (th_0 : OS) (v1_0 : Int32) (v2_0 : Int32) (v3_0 : Int32) : Option (OS × Int32) :=
  bnd (f_X9_isProcess n th_0 v1_0) (fun (r_1 : Int32) =>
  bnd2 (f_X9_is n th_0 r_1) (fun (th_2 : OS) (r_3 : Int32) =>
  if r_3 = 0 then (
  some (th_2, (0 : Int32))) else (
  bnd (f_X9_isIn n ((v2_0).toInt64) (1 : Int64) (((th_2.1 1)).toInt64)) (fun (r_4 : Int32) =>
  if r_4 = 0 then (
  j_X9_ask_44 n v1_0 v2_0 v3_0 th_2 (0 : Int32)) else (
  bnd (f_X9_isIn n ((v3_0).toInt64) (1 : Int64) (99 : Int64)) (fun (r_16 : Int32) =>
  if r_16 = 0 then (
  j_X9_ask_44 n v1_0 v2_0 v3_0 th_2 (0 : Int32)) else (
  j_X9_ask_44 n v1_0 v2_0 v3_0 th_2 (1 : Int32))))))))
set_option maxHeartbeats 4000000 in
set_option maxRecDepth 100000 in
theorem c_X9_ask (n : Nat) (l : Launch) (k : KT) (a_th : Nat → Nat) (th_0 : OS) (v1_0 : Int32) (v2_0 : Int32) (v3_0 : Int32) (res : (OS × Int32)) (hf : f_X9_ask n th_0 v1_0 v2_0 v3_0 = some res) : CG l k yX9_ask cX9_ask 4 (some .int) 2 0 0 46 [.ref (a_th 0), .int v1_0, .int v2_0, .int v3_0] (wModel k a_th th_0) (Qi k (fun u : OS => wModel k a_th u) (fun (r : Int32) (u : OS) => res = (u, r))) := by
  refine CG.ofI (by decide) (Nat.le_of_ble_eq_true rfl) (fun p e s m args below meth c A Q E hnm hW hA hret ls hl => ?_)
  have hl : lv_has ls 4 [(0, .ref (a_th 0)), (1, .int v1_0), (2, .int v2_0), (3, .int v3_0)] := hl
  unfold f_X9_ask at hf
  refine k_aload_n E hl 0 dX9_ask_0 rfl ?_
  refine k_aload_n E hl 0 dX9_ask_1 rfl ?_
  refine k_iload_n E hl 1 dX9_ask_2 rfl ?_
  obtain ⟨r_1, hg, hf⟩ := ob hf
  refine k_callVi (As := [.int v1_0]) (rest := [.ref (a_th 0)]) (ws2 := fun u => wModel k a_th th_0) (c_X9_isProcess n l k a_th th_0 v1_0 r_1 hg) E vl_X9_223 dX9_ask_3 rfl [0, 1, 2, 3, 4, 5, 6, 7, 8, 9, 10, 11, 12] 7 0 hW hA hl rfl rfl rfl rfl ⟨by decide, by decide⟩ ⟨by decide, by decide⟩ (Nat.le_of_ble_eq_true rfl) rfl (fun _ => rfl) (fun _ => rfl) (fun r u H locs hp hW => ?_)
  cases hp
  have hW : WD k A s.heap (wModel k a_th th_0) H locs := hW
  obtain ⟨th_2, r_3, hg, hf⟩ := ob2 hf
  refine k_callVi (As := [.int r_1]) (rest := []) (ws2 := fun u => wModel k a_th (u)) (c_X9_is n l k a_th th_0 r_1 (th_2, r_3) hg) E vl_X9_77 dX9_ask_6 rfl [0, 1, 2, 3, 4, 5, 6, 7, 8, 9, 10, 11, 12] 7 0 hW hA hl rfl rfl rfl rfl ⟨by decide, by decide⟩ ⟨by decide, by decide⟩ (Nat.le_of_ble_eq_true rfl) rfl (fun _ => rfl) (fun _ => rfl) (fun r u H locs hp hW => ?_)
  cases hp
  have hW : WD k A s.heap (wModel k a_th th_2) H locs := hW
  refine lv_if_eq (tgt := 51) E.hx E.hb dX9_ask_9 (by decide) (fun hc => ?_) (fun hc => ?_)
  · have hf := oT hc hf
    refine lv_iconst (v := (0 : Int32)) E.hx E.hb dX9_ask_51 ic_0 ?_
    exact hret _ th_2 _ _ _ _ _ _ hW (Option.some.inj hf).symm rfl (by decide) (by decide) dX9_ask_52
  · have hf := oF hc hf
    refine k_aload_n E hl 0 dX9_ask_12 rfl ?_
    refine k_iload_n E hl 2 dX9_ask_13 rfl ?_
    refine lv_i2l (v := (v2_0).toInt64) E.hx E.hb dX9_ask_14 rfl ?_
    refine lv_lconst (v := (1 : Int64)) E.hx E.hb dX9_ask_15 (by decide) ?_
    refine k_aload_n E hl 0 dX9_ask_16 rfl ?_
    refine gf_X9_100 E hW 0 rfl rfl dX9_ask_17 ?_
    refine lv_i2l (v := ((th_2.1 1)).toInt64) E.hx E.hb dX9_ask_20 rfl ?_
    obtain ⟨r_4, hg, hf⟩ := ob hf
    refine k_callSi (As := [.long ((v2_0).toInt64), .long (1 : Int64), .long (((th_2.1 1)).toInt64)]) (rest := [.ref (a_th 0)]) (ws2 := fun u => wModel k a_th th_2) (c_X9_isIn n l k ((v2_0).toInt64) (1 : Int64) (((th_2.1 1)).toInt64) r_4 hg) E sl_X9_92 dX9_ask_21 rfl [] hW hA hl rfl rfl ⟨by decide, by decide⟩ ⟨by decide, by decide⟩ (Nat.le_of_ble_eq_true rfl) rfl (fun _ => rfl) (fun _ => rfl) (fun r u H locs hp hW => ?_)
    cases hp
    have hW : WD k A s.heap (wModel k a_th th_2) H locs := hW
    have J_44 : ∀ (th_j44 : OS) (s1_j44 : Int32) (H : Heap) (locs : List Loc) (ls : Array Slot) (hW : WD k A s.heap (wModel k a_th th_j44) H locs) (hl : lv_has ls 4 [(0, .ref (a_th 0)), (1, .int v1_0), (2, .int v2_0), (3, .int v3_0)]) (hf : j_X9_ask_44 n v1_0 v2_0 v3_0 th_j44 s1_j44 = some res), W p l e { frames := 2, cells := 0, slots := 0, locals := 46 } s m args below meth c H locs 0 0 Q (F0 m 44 ls [.int s1_j44, .ref (a_th 0)]) := by
      intro th_j44 s1_j44 H locs ls hW hl hf
      unfold j_X9_ask_44 at hf
      refine lv_iconst (v := (2 : Int32)) E.hx E.hb dX9_ask_44 ic_2 ?_
      obtain ⟨th_5, r_6, hg, hf⟩ := ob2 hf
      refine k_callVi (As := [.int s1_j44, .int (2 : Int32)]) (rest := []) (ws2 := fun u => wModel k a_th (u)) (c_X9_may n l k a_th th_j44 s1_j44 (2 : Int32) (th_5, r_6) hg) E vl_X9_210 dX9_ask_45 rfl [0, 1, 2, 3, 4, 5, 6, 7, 8, 9, 10, 11, 12] 7 0 hW hA hl rfl rfl rfl rfl ⟨by decide, by decide⟩ ⟨by decide, by decide⟩ (Nat.le_of_ble_eq_true rfl) rfl (fun _ => rfl) (fun _ => rfl) (fun r u H locs hp hW => ?_)
      cases hp
      have hW : WD k A s.heap (wModel k a_th th_5) H locs := hW
      refine lv_if_ne (tgt := 53) E.hx E.hb dX9_ask_48 (by decide) (fun hc => ?_) (fun hc => ?_)
      · have hf := oF hc hf
        refine k_aload_n E hl 0 dX9_ask_53 rfl ?_
        refine k_aload_n E hl 0 dX9_ask_54 rfl ?_
        refine gf_X9_13 E hW 0 rfl rfl dX9_ask_55 ?_
        refine lv_bipush (v := (7 : Int32)) E.hx E.hb dX9_ask_58 bp_7 ?_
        obtain ⟨hin, hf⟩ := oI hf
        obtain ⟨x_7, ex_7, hf⟩ := oL hf
        refine k_iald E hW 2 rfl hin dX9_ask_60 ?_
        refine k_topi ex_7 ?_
        refine lv_bipush (v := (60 : Int32)) E.hx E.hb dX9_ask_61 bp_60 ?_
        have J_71 : ∀ (th_j71 : OS) (s1_j71 : Int32) (H : Heap) (locs : List Loc) (ls : Array Slot) (hW : WD k A s.heap (wModel k a_th th_j71) H locs) (hl : lv_has ls 4 [(0, .ref (a_th 0)), (1, .int v1_0), (2, .int v2_0), (3, .int v3_0)]) (hf : j_X9_ask_71 n v1_0 v2_0 v3_0 th_j71 s1_j71 = some res), W p l e { frames := 2, cells := 0, slots := 0, locals := 46 } s m args below meth c H locs 0 0 Q (F0 m 71 ls [.int s1_j71, .ref (a_th 0)]) := by
          intro th_j71 s1_j71 H locs ls hW hl hf
          unfold j_X9_ask_71 at hf
          refine lv_iconst (v := (3 : Int32)) E.hx E.hb dX9_ask_71 ic_3 ?_
          obtain ⟨th_8, r_9, hg, hf⟩ := ob2 hf
          refine k_callVi (As := [.int s1_j71, .int (3 : Int32)]) (rest := []) (ws2 := fun u => wModel k a_th (u)) (c_X9_may n l k a_th th_j71 s1_j71 (3 : Int32) (th_8, r_9) hg) E vl_X9_210 dX9_ask_72 rfl [0, 1, 2, 3, 4, 5, 6, 7, 8, 9, 10, 11, 12] 7 0 hW hA hl rfl rfl rfl rfl ⟨by decide, by decide⟩ ⟨by decide, by decide⟩ (Nat.le_of_ble_eq_true rfl) rfl (fun _ => rfl) (fun _ => rfl) (fun r u H locs hp hW => ?_)
          cases hp
          have hW : WD k A s.heap (wModel k a_th th_8) H locs := hW
          refine lv_if_ne (tgt := 80) E.hx E.hb dX9_ask_75 (by decide) (fun hc => ?_) (fun hc => ?_)
          · have hf := oF hc hf
            refine k_aload_n E hl 0 dX9_ask_80 rfl ?_
            obtain ⟨th_10, hg, hf⟩ := ob hf
            refine k_callVv (As := []) (rest := []) (ws2 := fun u => wModel k a_th (u)) (c_X9_starts n l k a_th th_8 th_10 hg) E vl_X9_214 dX9_ask_81 rfl [0, 1, 2, 3, 4, 5, 6, 7, 8, 9, 10, 11, 12] 7 0 hW hA hl rfl rfl rfl rfl ⟨by decide, by decide⟩ ⟨by decide, by decide⟩ (Nat.le_of_ble_eq_true rfl) rfl (fun _ => rfl) (fun _ => rfl) (fun u H locs hp hW => ?_)
            cases hp
            have hW : WD k A s.heap (wModel k a_th th_10) H locs := hW
            refine k_aload_n E hl 0 dX9_ask_84 rfl ?_
            refine k_aload_n E hl 0 dX9_ask_85 rfl ?_
            refine gf_X9_13 E hW 0 rfl rfl dX9_ask_86 ?_
            refine k_iload_n E hl 1 dX9_ask_89 rfl ?_
            refine k_iload_n E hl 2 dX9_ask_90 rfl ?_
            refine k_iload_n E hl 3 dX9_ask_91 rfl ?_
            obtain ⟨y_11, r_12, hg, hf⟩ := ob2 hf
            obtain ⟨th_13, eth_13, hf⟩ := oL hf
            refine k_callSi (As := [.ref (a_th 2), .int v1_0, .int v2_0, .int v3_0]) (rest := [.ref (a_th 0)]) (ws2 := fun u => wModel k a_th (sA th_10 9 (u))) (c_X9_asks n l k (fun j => a_th (2 + j)) 1846 (th_10.2.1 9) v1_0 v2_0 v3_0 (y_11, r_12) hg) E sl_X9_228 dX9_ask_92 rfl [2] hW hA hl rfl rfl ⟨by decide, by decide⟩ ⟨by decide, by decide⟩ (Nat.le_of_ble_eq_true rfl) rfl (fun _ => rfl) (fun _ => rfl) (fun r u H locs hp hW => ?_)
            cases hp
            have hW : WD k A s.heap (wModel k a_th th_13) H locs := by rw [eth_13]; exact hW
            obtain ⟨th_14, r_15, hg, hf⟩ := ob2 hf
            refine k_callVi (As := [.int r_12]) (rest := []) (ws2 := fun u => wModel k a_th (u)) (c_X9_done n l k a_th th_13 r_12 (th_14, r_15) hg) E vl_X9_220 dX9_ask_95 rfl [0, 1, 2, 3, 4, 5, 6, 7, 8, 9, 10, 11, 12] 7 0 hW hA hl rfl rfl rfl rfl ⟨by decide, by decide⟩ ⟨by decide, by decide⟩ (Nat.le_of_ble_eq_true rfl) rfl (fun _ => rfl) (fun _ => rfl) (fun r u H locs hp hW => ?_)
            cases hp
            have hW : WD k A s.heap (wModel k a_th th_14) H locs := hW
            exact hret _ th_14 _ _ _ _ _ _ hW (Option.some.inj hf).symm rfl (by decide) (by decide) dX9_ask_98
          · have hf := oT hc hf
            refine lv_iconst (v := (0 : Int32)) E.hx E.hb dX9_ask_78 ic_0 ?_
            exact hret _ th_8 _ _ _ _ _ _ hW (Option.some.inj hf).symm rfl (by decide) (by decide) dX9_ask_79
        refine lv_icmp_ge (tgt := 70) E.hx E.hb dX9_ask_63 (by decide) (fun hc => ?_) (fun hc => ?_)
        · have hf := oT hc hf
          refine lv_iconst (v := (0 : Int32)) E.hx E.hb dX9_ask_70 ic_0 ?_
          exact J_71 th_5 (0 : Int32) _ _ _ hW (lv_sub hl [0, 1, 2, 3] rfl) hf
        · have hf := oF hc hf
          refine lv_iconst (v := (1 : Int32)) E.hx E.hb dX9_ask_66 ic_1 ?_
          refine lv_goto (tgt := 71) E.hx E.hb dX9_ask_67 (by decide) ?_
          exact J_71 th_5 (1 : Int32) _ _ _ hW (lv_sub hl [0, 1, 2, 3] rfl) hf
      · have hf := oT hc hf
        refine lv_iconst (v := (0 : Int32)) E.hx E.hb dX9_ask_51 ic_0 ?_
        exact hret _ th_5 _ _ _ _ _ _ hW (Option.some.inj hf).symm rfl (by decide) (by decide) dX9_ask_52
    refine lv_if_eq (tgt := 43) E.hx E.hb dX9_ask_24 (by decide) (fun hc => ?_) (fun hc => ?_)
    · have hf := oT hc hf
      refine lv_iconst (v := (0 : Int32)) E.hx E.hb dX9_ask_43 ic_0 ?_
      exact J_44 th_2 (0 : Int32) _ _ _ hW (lv_sub hl [0, 1, 2, 3] rfl) hf
    · have hf := oF hc hf
      refine k_iload_n E hl 3 dX9_ask_27 rfl ?_
      refine lv_i2l (v := (v3_0).toInt64) E.hx E.hb dX9_ask_28 rfl ?_
      refine lv_lconst (v := (1 : Int64)) E.hx E.hb dX9_ask_29 (by decide) ?_
      refine lv_ldc2 E.hx E.hb E.ho (E.w tm_1600 rfl) dX9_ask_30 ?_
      obtain ⟨r_16, hg, hf⟩ := ob hf
      refine k_callSi (As := [.long ((v3_0).toInt64), .long (1 : Int64), .long (99 : Int64)]) (rest := [.ref (a_th 0)]) (ws2 := fun u => wModel k a_th th_2) (c_X9_isIn n l k ((v3_0).toInt64) (1 : Int64) (99 : Int64) r_16 hg) E sl_X9_92 dX9_ask_33 rfl [] hW hA hl rfl rfl ⟨by decide, by decide⟩ ⟨by decide, by decide⟩ (Nat.le_of_ble_eq_true rfl) rfl (fun _ => rfl) (fun _ => rfl) (fun r u H locs hp hW => ?_)
      cases hp
      have hW : WD k A s.heap (wModel k a_th th_2) H locs := hW
      refine lv_if_eq (tgt := 43) E.hx E.hb dX9_ask_36 (by decide) (fun hc => ?_) (fun hc => ?_)
      · have hf := oT hc hf
        refine lv_iconst (v := (0 : Int32)) E.hx E.hb dX9_ask_43 ic_0 ?_
        exact J_44 th_2 (0 : Int32) _ _ _ hW (lv_sub hl [0, 1, 2, 3] rfl) hf
      · have hf := oF hc hf
        refine lv_iconst (v := (1 : Int32)) E.hx E.hb dX9_ask_39 ic_1 ?_
        refine lv_goto (tgt := 44) E.hx E.hb dX9_ask_40 (by decide) ?_
        exact J_44 th_2 (1 : Int32) _ _ _ hW (lv_sub hl [0, 1, 2, 3] rfl) hf
def f_X9_withdraw (n : Nat) (th_0 : OS) (v1_0 : Int32) : Option (OS × Int32) :=
  bnd (f_X9_isClaim n th_0 v1_0) (fun (r_1 : Int32) =>
  bnd2 (f_X9_is n th_0 r_1) (fun (th_2 : OS) (r_3 : Int32) =>
  if r_3 = 0 then (
  some (th_2, (0 : Int32))) else (
  bnd (f_X9_doesWait n th_2 v1_0) (fun (r_4 : Int32) =>
  bnd2 (f_X9_may n th_2 r_4 (2 : Int32)) (fun (th_5 : OS) (r_6 : Int32) =>
  if r_6 = 0 then (
  some (th_5, (0 : Int32))) else (
  bnd (f_X9_starts n th_5) (fun (th_7 : OS) =>
  gI 1846 (((602 : Int32) + ((7 : Int32) * v1_0)) + (3 : Int32)) (Let (sA th_7 9 (upd (th_7.2.1 9) (((602 : Int32) + ((7 : Int32) * v1_0)) + (3 : Int32)).toNatClampNeg (3 : Int32))) (fun th_8 : OS =>
  bnd (f_X9_claim0 n th_8 v1_0 (4 : Int32)) (fun (r_9 : Int32) =>
  bnd2 (f_X9_done n th_8 r_9) (fun (th_10 : OS) (r_11 : Int32) =>
  some (th_10, r_11))))))))))))
set_option maxHeartbeats 4000000 in
set_option maxRecDepth 100000 in
theorem c_X9_withdraw (n : Nat) (l : Launch) (k : KT) (a_th : Nat → Nat) (th_0 : OS) (v1_0 : Int32) (res : (OS × Int32)) (hf : f_X9_withdraw n th_0 v1_0 = some res) : CG l k yX9_withdraw cX9_withdraw 2 (some .int) 2 0 0 46 [.ref (a_th 0), .int v1_0] (wModel k a_th th_0) (Qi k (fun u : OS => wModel k a_th u) (fun (r : Int32) (u : OS) => res = (u, r))) := by
  refine CG.ofI (by decide) (Nat.le_of_ble_eq_true rfl) (fun p e s m args below meth c A Q E hnm hW hA hret ls hl => ?_)
  have hl : lv_has ls 2 [(0, .ref (a_th 0)), (1, .int v1_0)] := hl
  unfold f_X9_withdraw at hf
  refine k_aload_n E hl 0 dX9_withdraw_0 rfl ?_
  refine k_aload_n E hl 0 dX9_withdraw_1 rfl ?_
  refine k_iload_n E hl 1 dX9_withdraw_2 rfl ?_
  obtain ⟨r_1, hg, hf⟩ := ob hf
  refine k_callVi (As := [.int v1_0]) (rest := [.ref (a_th 0)]) (ws2 := fun u => wModel k a_th th_0) (c_X9_isClaim n l k a_th th_0 v1_0 r_1 hg) E vl_X9_232 dX9_withdraw_3 rfl [0, 1, 2, 3, 4, 5, 6, 7, 8, 9, 10, 11, 12] 7 0 hW hA hl rfl rfl rfl rfl ⟨by decide, by decide⟩ ⟨by decide, by decide⟩ (Nat.le_of_ble_eq_true rfl) rfl (fun _ => rfl) (fun _ => rfl) (fun r u H locs hp hW => ?_)
  cases hp
  have hW : WD k A s.heap (wModel k a_th th_0) H locs := hW
  obtain ⟨th_2, r_3, hg, hf⟩ := ob2 hf
  refine k_callVi (As := [.int r_1]) (rest := []) (ws2 := fun u => wModel k a_th (u)) (c_X9_is n l k a_th th_0 r_1 (th_2, r_3) hg) E vl_X9_77 dX9_withdraw_6 rfl [0, 1, 2, 3, 4, 5, 6, 7, 8, 9, 10, 11, 12] 7 0 hW hA hl rfl rfl rfl rfl ⟨by decide, by decide⟩ ⟨by decide, by decide⟩ (Nat.le_of_ble_eq_true rfl) rfl (fun _ => rfl) (fun _ => rfl) (fun r u H locs hp hW => ?_)
  cases hp
  have hW : WD k A s.heap (wModel k a_th th_2) H locs := hW
  refine lv_if_eq (tgt := 25) E.hx E.hb dX9_withdraw_9 (by decide) (fun hc => ?_) (fun hc => ?_)
  · have hf := oT hc hf
    refine lv_iconst (v := (0 : Int32)) E.hx E.hb dX9_withdraw_25 ic_0 ?_
    exact hret _ th_2 _ _ _ _ _ _ hW (Option.some.inj hf).symm rfl (by decide) (by decide) dX9_withdraw_26
  · have hf := oF hc hf
    refine k_aload_n E hl 0 dX9_withdraw_12 rfl ?_
    refine k_aload_n E hl 0 dX9_withdraw_13 rfl ?_
    refine k_iload_n E hl 1 dX9_withdraw_14 rfl ?_
    obtain ⟨r_4, hg, hf⟩ := ob hf
    refine k_callVi (As := [.int v1_0]) (rest := [.ref (a_th 0)]) (ws2 := fun u => wModel k a_th th_2) (c_X9_doesWait n l k a_th th_2 v1_0 r_4 hg) E vl_X9_142 dX9_withdraw_15 rfl [0, 1, 2, 3, 4, 5, 6, 7, 8, 9, 10, 11, 12] 7 0 hW hA hl rfl rfl rfl rfl ⟨by decide, by decide⟩ ⟨by decide, by decide⟩ (Nat.le_of_ble_eq_true rfl) rfl (fun _ => rfl) (fun _ => rfl) (fun r u H locs hp hW => ?_)
    cases hp
    have hW : WD k A s.heap (wModel k a_th th_2) H locs := hW
    refine lv_iconst (v := (2 : Int32)) E.hx E.hb dX9_withdraw_18 ic_2 ?_
    obtain ⟨th_5, r_6, hg, hf⟩ := ob2 hf
    refine k_callVi (As := [.int r_4, .int (2 : Int32)]) (rest := []) (ws2 := fun u => wModel k a_th (u)) (c_X9_may n l k a_th th_2 r_4 (2 : Int32) (th_5, r_6) hg) E vl_X9_210 dX9_withdraw_19 rfl [0, 1, 2, 3, 4, 5, 6, 7, 8, 9, 10, 11, 12] 7 0 hW hA hl rfl rfl rfl rfl ⟨by decide, by decide⟩ ⟨by decide, by decide⟩ (Nat.le_of_ble_eq_true rfl) rfl (fun _ => rfl) (fun _ => rfl) (fun r u H locs hp hW => ?_)
    cases hp
    have hW : WD k A s.heap (wModel k a_th th_5) H locs := hW
    refine lv_if_ne (tgt := 27) E.hx E.hb dX9_withdraw_22 (by decide) (fun hc => ?_) (fun hc => ?_)
    · have hf := oF hc hf
      refine k_aload_n E hl 0 dX9_withdraw_27 rfl ?_
      obtain ⟨th_7, hg, hf⟩ := ob hf
      refine k_callVv (As := []) (rest := []) (ws2 := fun u => wModel k a_th (u)) (c_X9_starts n l k a_th th_5 th_7 hg) E vl_X9_214 dX9_withdraw_28 rfl [0, 1, 2, 3, 4, 5, 6, 7, 8, 9, 10, 11, 12] 7 0 hW hA hl rfl rfl rfl rfl ⟨by decide, by decide⟩ ⟨by decide, by decide⟩ (Nat.le_of_ble_eq_true rfl) rfl (fun _ => rfl) (fun _ => rfl) (fun u H locs hp hW => ?_)
      cases hp
      have hW : WD k A s.heap (wModel k a_th th_7) H locs := hW
      refine k_aload_n E hl 0 dX9_withdraw_31 rfl ?_
      refine gf_X9_13 E hW 0 rfl rfl dX9_withdraw_32 ?_
      refine lv_sipush (v := (602 : Int32)) E.hx E.hb dX9_withdraw_35 sp_602 ?_
      refine lv_bipush (v := (7 : Int32)) E.hx E.hb dX9_withdraw_38 bp_7 ?_
      refine k_iload_n E hl 1 dX9_withdraw_40 rfl ?_
      refine lv_imul E.hx E.hb dX9_withdraw_41 ?_
      refine lv_iadd E.hx E.hb dX9_withdraw_42 ?_
      refine lv_iconst (v := (3 : Int32)) E.hx E.hb dX9_withdraw_43 ic_3 ?_
      refine lv_iadd E.hx E.hb dX9_withdraw_44 ?_
      refine lv_iconst (v := (3 : Int32)) E.hx E.hb dX9_withdraw_45 ic_3 ?_
      obtain ⟨hin, hf⟩ := oI hf
      obtain ⟨th_8, eth_8, hf⟩ := oL hf
      refine k_iast (ws2 := wModel k a_th th_8) E hW 2 rfl hin dX9_withdraw_46 (by rw [eth_8]; rfl) (fun H locs hW => ?_)
      refine k_aload_n E hl 0 dX9_withdraw_47 rfl ?_
      refine k_aload_n E hl 0 dX9_withdraw_48 rfl ?_
      refine k_iload_n E hl 1 dX9_withdraw_49 rfl ?_
      refine lv_iconst (v := (4 : Int32)) E.hx E.hb dX9_withdraw_50 ic_4 ?_
      obtain ⟨r_9, hg, hf⟩ := ob hf
      refine k_callVi (As := [.int v1_0, .int (4 : Int32)]) (rest := [.ref (a_th 0)]) (ws2 := fun u => wModel k a_th th_8) (c_X9_claim0 n l k a_th th_8 v1_0 (4 : Int32) r_9 hg) E vl_X9_139 dX9_withdraw_51 rfl [0, 1, 2, 3, 4, 5, 6, 7, 8, 9, 10, 11, 12] 7 0 hW hA hl rfl rfl rfl rfl ⟨by decide, by decide⟩ ⟨by decide, by decide⟩ (Nat.le_of_ble_eq_true rfl) rfl (fun _ => rfl) (fun _ => rfl) (fun r u H locs hp hW => ?_)
      cases hp
      have hW : WD k A s.heap (wModel k a_th th_8) H locs := hW
      obtain ⟨th_10, r_11, hg, hf⟩ := ob2 hf
      refine k_callVi (As := [.int r_9]) (rest := []) (ws2 := fun u => wModel k a_th (u)) (c_X9_done n l k a_th th_8 r_9 (th_10, r_11) hg) E vl_X9_220 dX9_withdraw_54 rfl [0, 1, 2, 3, 4, 5, 6, 7, 8, 9, 10, 11, 12] 7 0 hW hA hl rfl rfl rfl rfl ⟨by decide, by decide⟩ ⟨by decide, by decide⟩ (Nat.le_of_ble_eq_true rfl) rfl (fun _ => rfl) (fun _ => rfl) (fun r u H locs hp hW => ?_)
      cases hp
      have hW : WD k A s.heap (wModel k a_th th_10) H locs := hW
      exact hret _ th_10 _ _ _ _ _ _ hW (Option.some.inj hf).symm rfl (by decide) (by decide) dX9_withdraw_57
    · have hf := oT hc hf
      refine lv_iconst (v := (0 : Int32)) E.hx E.hb dX9_withdraw_25 ic_0 ?_
      exact hret _ th_5 _ _ _ _ _ _ hW (Option.some.inj hf).symm rfl (by decide) (by decide) dX9_withdraw_26
def f_X9_giveBack (n : Nat) (th_0 : OS) (v1_0 : Int32) (v2_0 : Int32) : Option (OS × Int32) :=
  bnd (f_X9_isLoan n th_0 v1_0) (fun (r_1 : Int32) =>
  bnd2 (f_X9_is n th_0 r_1) (fun (th_2 : OS) (r_3 : Int32) =>
  if r_3 = 0 then (
  some (th_2, (0 : Int32))) else (
  bnd (f_X9_pagesOf n th_2 v1_0) (fun (r_4 : Int32) =>
  bnd (f_X9_isIn n ((v2_0).toInt64) (1 : Int64) ((r_4).toInt64)) (fun (r_5 : Int32) =>
  bnd2 (f_X9_may n th_2 r_5 (2 : Int32)) (fun (th_6 : OS) (r_7 : Int32) =>
  if r_7 = 0 then (
  some (th_6, (0 : Int32))) else (
  bnd (f_X9_starts n th_6) (fun (th_8 : OS) =>
  bnd (f_X9_frees n th_8 v1_0 v2_0) (fun (th_9 : OS) =>
  bnd (f_X9_pagesOf n th_9 v1_0) (fun (r_10 : Int32) =>
  bnd2 (f_X9_done n th_9 r_10) (fun (th_11 : OS) (r_12 : Int32) =>
  some (th_11, r_12))))))))))))
set_option maxHeartbeats 4000000 in
set_option maxRecDepth 100000 in
theorem c_X9_giveBack (n : Nat) (l : Launch) (k : KT) (a_th : Nat → Nat) (th_0 : OS) (v1_0 : Int32) (v2_0 : Int32) (res : (OS × Int32)) (hf : f_X9_giveBack n th_0 v1_0 v2_0 = some res) : CG l k yX9_giveBack cX9_giveBack 3 (some .int) 2 0 0 46 [.ref (a_th 0), .int v1_0, .int v2_0] (wModel k a_th th_0) (Qi k (fun u : OS => wModel k a_th u) (fun (r : Int32) (u : OS) => res = (u, r))) := by
  refine CG.ofI (by decide) (Nat.le_of_ble_eq_true rfl) (fun p e s m args below meth c A Q E hnm hW hA hret ls hl => ?_)
  have hl : lv_has ls 3 [(0, .ref (a_th 0)), (1, .int v1_0), (2, .int v2_0)] := hl
  unfold f_X9_giveBack at hf
  refine k_aload_n E hl 0 dX9_giveBack_0 rfl ?_
  refine k_aload_n E hl 0 dX9_giveBack_1 rfl ?_
  refine k_iload_n E hl 1 dX9_giveBack_2 rfl ?_
  obtain ⟨r_1, hg, hf⟩ := ob hf
  refine k_callVi (As := [.int v1_0]) (rest := [.ref (a_th 0)]) (ws2 := fun u => wModel k a_th th_0) (c_X9_isLoan n l k a_th th_0 v1_0 r_1 hg) E vl_X9_235 dX9_giveBack_3 rfl [0, 1, 2, 3, 4, 5, 6, 7, 8, 9, 10, 11, 12] 7 0 hW hA hl rfl rfl rfl rfl ⟨by decide, by decide⟩ ⟨by decide, by decide⟩ (Nat.le_of_ble_eq_true rfl) rfl (fun _ => rfl) (fun _ => rfl) (fun r u H locs hp hW => ?_)
  cases hp
  have hW : WD k A s.heap (wModel k a_th th_0) H locs := hW
  obtain ⟨th_2, r_3, hg, hf⟩ := ob2 hf
  refine k_callVi (As := [.int r_1]) (rest := []) (ws2 := fun u => wModel k a_th (u)) (c_X9_is n l k a_th th_0 r_1 (th_2, r_3) hg) E vl_X9_77 dX9_giveBack_6 rfl [0, 1, 2, 3, 4, 5, 6, 7, 8, 9, 10, 11, 12] 7 0 hW hA hl rfl rfl rfl rfl ⟨by decide, by decide⟩ ⟨by decide, by decide⟩ (Nat.le_of_ble_eq_true rfl) rfl (fun _ => rfl) (fun _ => rfl) (fun r u H locs hp hW => ?_)
  cases hp
  have hW : WD k A s.heap (wModel k a_th th_2) H locs := hW
  refine lv_if_eq (tgt := 32) E.hx E.hb dX9_giveBack_9 (by decide) (fun hc => ?_) (fun hc => ?_)
  · have hf := oT hc hf
    refine lv_iconst (v := (0 : Int32)) E.hx E.hb dX9_giveBack_32 ic_0 ?_
    exact hret _ th_2 _ _ _ _ _ _ hW (Option.some.inj hf).symm rfl (by decide) (by decide) dX9_giveBack_33
  · have hf := oF hc hf
    refine k_aload_n E hl 0 dX9_giveBack_12 rfl ?_
    refine k_iload_n E hl 2 dX9_giveBack_13 rfl ?_
    refine lv_i2l (v := (v2_0).toInt64) E.hx E.hb dX9_giveBack_14 rfl ?_
    refine lv_lconst (v := (1 : Int64)) E.hx E.hb dX9_giveBack_15 (by decide) ?_
    refine k_aload_n E hl 0 dX9_giveBack_16 rfl ?_
    refine k_iload_n E hl 1 dX9_giveBack_17 rfl ?_
    obtain ⟨r_4, hg, hf⟩ := ob hf
    refine k_callVi (As := [.int v1_0]) (rest := [.long (1 : Int64), .long ((v2_0).toInt64), .ref (a_th 0)]) (ws2 := fun u => wModel k a_th th_2) (c_X9_pagesOf n l k a_th th_2 v1_0 r_4 hg) E vl_X9_103 dX9_giveBack_18 rfl [0, 1, 2, 3, 4, 5, 6, 7, 8, 9, 10, 11, 12] 7 0 hW hA hl rfl rfl rfl rfl ⟨by decide, by decide⟩ ⟨by decide, by decide⟩ (Nat.le_of_ble_eq_true rfl) rfl (fun _ => rfl) (fun _ => rfl) (fun r u H locs hp hW => ?_)
    cases hp
    have hW : WD k A s.heap (wModel k a_th th_2) H locs := hW
    refine lv_i2l (v := (r_4).toInt64) E.hx E.hb dX9_giveBack_21 rfl ?_
    obtain ⟨r_5, hg, hf⟩ := ob hf
    refine k_callSi (As := [.long ((v2_0).toInt64), .long (1 : Int64), .long ((r_4).toInt64)]) (rest := [.ref (a_th 0)]) (ws2 := fun u => wModel k a_th th_2) (c_X9_isIn n l k ((v2_0).toInt64) (1 : Int64) ((r_4).toInt64) r_5 hg) E sl_X9_92 dX9_giveBack_22 rfl [] hW hA hl rfl rfl ⟨by decide, by decide⟩ ⟨by decide, by decide⟩ (Nat.le_of_ble_eq_true rfl) rfl (fun _ => rfl) (fun _ => rfl) (fun r u H locs hp hW => ?_)
    cases hp
    have hW : WD k A s.heap (wModel k a_th th_2) H locs := hW
    refine lv_iconst (v := (2 : Int32)) E.hx E.hb dX9_giveBack_25 ic_2 ?_
    obtain ⟨th_6, r_7, hg, hf⟩ := ob2 hf
    refine k_callVi (As := [.int r_5, .int (2 : Int32)]) (rest := []) (ws2 := fun u => wModel k a_th (u)) (c_X9_may n l k a_th th_2 r_5 (2 : Int32) (th_6, r_7) hg) E vl_X9_210 dX9_giveBack_26 rfl [0, 1, 2, 3, 4, 5, 6, 7, 8, 9, 10, 11, 12] 7 0 hW hA hl rfl rfl rfl rfl ⟨by decide, by decide⟩ ⟨by decide, by decide⟩ (Nat.le_of_ble_eq_true rfl) rfl (fun _ => rfl) (fun _ => rfl) (fun r u H locs hp hW => ?_)
    cases hp
    have hW : WD k A s.heap (wModel k a_th th_6) H locs := hW
    refine lv_if_ne (tgt := 34) E.hx E.hb dX9_giveBack_29 (by decide) (fun hc => ?_) (fun hc => ?_)
    · have hf := oF hc hf
      refine k_aload_n E hl 0 dX9_giveBack_34 rfl ?_
      obtain ⟨th_8, hg, hf⟩ := ob hf
      refine k_callVv (As := []) (rest := []) (ws2 := fun u => wModel k a_th (u)) (c_X9_starts n l k a_th th_6 th_8 hg) E vl_X9_214 dX9_giveBack_35 rfl [0, 1, 2, 3, 4, 5, 6, 7, 8, 9, 10, 11, 12] 7 0 hW hA hl rfl rfl rfl rfl ⟨by decide, by decide⟩ ⟨by decide, by decide⟩ (Nat.le_of_ble_eq_true rfl) rfl (fun _ => rfl) (fun _ => rfl) (fun u H locs hp hW => ?_)
      cases hp
      have hW : WD k A s.heap (wModel k a_th th_8) H locs := hW
      refine k_aload_n E hl 0 dX9_giveBack_38 rfl ?_
      refine k_iload_n E hl 1 dX9_giveBack_39 rfl ?_
      refine k_iload_n E hl 2 dX9_giveBack_40 rfl ?_
      obtain ⟨th_9, hg, hf⟩ := ob hf
      refine k_callVv (As := [.int v1_0, .int v2_0]) (rest := []) (ws2 := fun u => wModel k a_th (u)) (c_X9_frees n l k a_th th_8 v1_0 v2_0 th_9 hg) E vl_X9_155 dX9_giveBack_41 rfl [0, 1, 2, 3, 4, 5, 6, 7, 8, 9, 10, 11, 12] 7 0 hW hA hl rfl rfl rfl rfl ⟨by decide, by decide⟩ ⟨by decide, by decide⟩ (Nat.le_of_ble_eq_true rfl) rfl (fun _ => rfl) (fun _ => rfl) (fun u H locs hp hW => ?_)
      cases hp
      have hW : WD k A s.heap (wModel k a_th th_9) H locs := hW
      refine k_aload_n E hl 0 dX9_giveBack_44 rfl ?_
      refine k_aload_n E hl 0 dX9_giveBack_45 rfl ?_
      refine k_iload_n E hl 1 dX9_giveBack_46 rfl ?_
      obtain ⟨r_10, hg, hf⟩ := ob hf
      refine k_callVi (As := [.int v1_0]) (rest := [.ref (a_th 0)]) (ws2 := fun u => wModel k a_th th_9) (c_X9_pagesOf n l k a_th th_9 v1_0 r_10 hg) E vl_X9_103 dX9_giveBack_47 rfl [0, 1, 2, 3, 4, 5, 6, 7, 8, 9, 10, 11, 12] 7 0 hW hA hl rfl rfl rfl rfl ⟨by decide, by decide⟩ ⟨by decide, by decide⟩ (Nat.le_of_ble_eq_true rfl) rfl (fun _ => rfl) (fun _ => rfl) (fun r u H locs hp hW => ?_)
      cases hp
      have hW : WD k A s.heap (wModel k a_th th_9) H locs := hW
      obtain ⟨th_11, r_12, hg, hf⟩ := ob2 hf
      refine k_callVi (As := [.int r_10]) (rest := []) (ws2 := fun u => wModel k a_th (u)) (c_X9_done n l k a_th th_9 r_10 (th_11, r_12) hg) E vl_X9_220 dX9_giveBack_50 rfl [0, 1, 2, 3, 4, 5, 6, 7, 8, 9, 10, 11, 12] 7 0 hW hA hl rfl rfl rfl rfl ⟨by decide, by decide⟩ ⟨by decide, by decide⟩ (Nat.le_of_ble_eq_true rfl) rfl (fun _ => rfl) (fun _ => rfl) (fun r u H locs hp hW => ?_)
      cases hp
      have hW : WD k A s.heap (wModel k a_th th_11) H locs := hW
      exact hret _ th_11 _ _ _ _ _ _ hW (Option.some.inj hf).symm rfl (by decide) (by decide) dX9_giveBack_53
    · have hf := oT hc hf
      refine lv_iconst (v := (0 : Int32)) E.hx E.hb dX9_giveBack_32 ic_0 ?_
      exact hret _ th_6 _ _ _ _ _ _ hW (Option.some.inj hf).symm rfl (by decide) (by decide) dX9_giveBack_33
def s_X9_doOthersWait_2 (n : Nat) (th_0 : OS) (w1_j2 : Int32) (rc_2 : (Int32) → Option (Int32)) (w2_j2 : Int32) : Option (Int32) :=
  gI 1846 (7 : Int32) (Let ((th_0.2.1 9) (7 : Int32).toNatClampNeg) (fun x_1 : Int32 =>
  if x_1 ≤ w2_j2 then (
  some (0 : Int32)) else (
  bnd (f_X9_doesWait n th_0 w2_j2) (fun (r_2 : Int32) =>
  if r_2 = 0 then (
  Let (w2_j2 + (1 : Int32)) (fun v2_3 : Int32 =>
  rc_2 v2_3)) else (
  bnd (f_X9_claim0 n th_0 w2_j2 (0 : Int32)) (fun (r_4 : Int32) =>
  if r_4 = w1_j2 then (
  Let (w2_j2 + (1 : Int32)) (fun v2_5 : Int32 =>
  rc_2 v2_5)) else (
  some (1 : Int32))))))))
def l_X9_doOthersWait_2 (n : Nat) (th_0 : OS) (w1_j2 : Int32) : Nat → (Int32) → Option (Int32)
  | 0 => fun _ => none
  | N + 1 => s_X9_doOthersWait_2 n th_0 w1_j2 (l_X9_doOthersWait_2 n th_0 w1_j2 N)
def f_X9_doOthersWait (n : Nat) (th_0 : OS) (v1_0 : Int32) : Option (Int32) :=
  l_X9_doOthersWait_2 n th_0 v1_0 n (0 : Int32)
set_option maxHeartbeats 4000000 in
set_option maxRecDepth 100000 in
theorem c_X9_doOthersWait (n : Nat) (l : Launch) (k : KT) (a_th : Nat → Nat) (th_0 : OS) (v1_0 : Int32) (res : (Int32)) (hf : f_X9_doOthersWait n th_0 v1_0 = some res) : CG l k yX9_doOthersWait cX9_doOthersWait 3 (some .boolean) 2 0 0 43 [.ref (a_th 0), .int v1_0] (wModel k a_th th_0) (Qi k (fun u : Unit => wModel k a_th th_0) (fun (r : Int32) (u : Unit) => res = r)) := by
  refine CG.ofI (by decide) (Nat.le_of_ble_eq_true rfl) (fun p e s m args below meth c A Q E hnm hW hA hret ls hl => ?_)
  have hl : lv_has ls 3 [(0, .ref (a_th 0)), (1, .int v1_0)] := hl
  unfold f_X9_doOthersWait at hf
  refine lv_iconst (v := (0 : Int32)) E.hx E.hb dX9_doOthersWait_0 ic_0 ?_
  refine k_istore_n (lv' := [(2, .int (0 : Int32)), (0, .ref (a_th 0)), (1, .int v1_0)]) E rfl hl dX9_doOthersWait_1 rfl (by decide) rfl (fun ls hl => ?_)
  have L_2 : ∀ (N_2 : Nat) (w2_j2 : Int32) (H : Heap) (locs : List Loc) (ls : Array Slot) (hW : WD k A s.heap (wModel k a_th th_0) H locs) (hl : lv_has ls 3 [(0, .ref (a_th 0)), (1, .int v1_0), (2, .int w2_j2)]) (hf : l_X9_doOthersWait_2 n th_0 v1_0 N_2 w2_j2 = some res), W p l e { frames := 2, cells := 0, slots := 0, locals := 43 } s m args below meth c H locs 0 0 Q (F0 m 2 ls []) := by
    intro N_2
    induction N_2 with
    | zero => intro w2_j2 H locs ls hW hl hf; exact o0 hf
    | succ N_2 ih_2 =>
      intro w2_j2 H locs ls hW hl hf
      have hf : s_X9_doOthersWait_2 n th_0 v1_0 (l_X9_doOthersWait_2 n th_0 v1_0 N_2) w2_j2 = some res := hf
      unfold s_X9_doOthersWait_2 at hf
      refine k_iload_n E hl 2 dX9_doOthersWait_2 rfl ?_
      refine k_aload_n E hl 0 dX9_doOthersWait_3 rfl ?_
      refine gf_X9_13 E hW 0 rfl rfl dX9_doOthersWait_4 ?_
      refine lv_bipush (v := (7 : Int32)) E.hx E.hb dX9_doOthersWait_7 bp_7 ?_
      obtain ⟨hin, hf⟩ := oI hf
      obtain ⟨x_1, ex_1, hf⟩ := oL hf
      refine k_iald E hW 2 rfl hin dX9_doOthersWait_9 ?_
      refine k_topi ex_1 ?_
      refine lv_icmp_ge (tgt := 39) E.hx E.hb dX9_doOthersWait_10 (by decide) (fun hc => ?_) (fun hc => ?_)
      · have hf := oT hc hf
        refine lv_iconst (v := (0 : Int32)) E.hx E.hb dX9_doOthersWait_39 ic_0 ?_
        exact hret _ () _ _ _ _ _ _ hW (Option.some.inj hf).symm (by decide) (by decide) (by decide) dX9_doOthersWait_40
      · have hf := oF hc hf
        refine k_aload_n E hl 0 dX9_doOthersWait_13 rfl ?_
        refine k_iload_n E hl 2 dX9_doOthersWait_14 rfl ?_
        obtain ⟨r_2, hg, hf⟩ := ob hf
        refine k_callVi (As := [.int w2_j2]) (rest := []) (ws2 := fun u => wModel k a_th th_0) (c_X9_doesWait n l k a_th th_0 w2_j2 r_2 hg) E vl_X9_142 dX9_doOthersWait_15 rfl [0, 1, 2, 3, 4, 5, 6, 7, 8, 9, 10, 11, 12] 7 0 hW hA hl rfl rfl rfl rfl ⟨by decide, by decide⟩ ⟨by decide, by decide⟩ (Nat.le_of_ble_eq_true rfl) rfl (fun _ => rfl) (fun _ => rfl) (fun r u H locs hp hW => ?_)
        cases hp
        have hW : WD k A s.heap (wModel k a_th th_0) H locs := hW
        refine lv_if_eq (tgt := 33) E.hx E.hb dX9_doOthersWait_18 (by decide) (fun hc => ?_) (fun hc => ?_)
        · have hf := oT hc hf
          obtain ⟨v2_3, ev2_3, hf⟩ := oL hf
          refine k_iinc (lv' := [(2, .int v2_3), (0, .ref (a_th 0)), (1, .int v1_0)]) E hl 2 dX9_doOthersWait_33 rfl (ev2_3.trans (congrArg (fun z => w2_j2 + z) ic_1.symm)) (by decide) rfl (fun ls hl => ?_)
          refine lv_goto (tgt := 2) E.hx E.hb dX9_doOthersWait_36 (by decide) ?_
          exact ih_2 v2_3 _ _ _ hW (lv_sub hl [1, 2, 0] rfl) hf
        · have hf := oF hc hf
          refine k_aload_n E hl 0 dX9_doOthersWait_21 rfl ?_
          refine k_iload_n E hl 2 dX9_doOthersWait_22 rfl ?_
          refine lv_iconst (v := (0 : Int32)) E.hx E.hb dX9_doOthersWait_23 ic_0 ?_
          obtain ⟨r_4, hg, hf⟩ := ob hf
          refine k_callVi (As := [.int w2_j2, .int (0 : Int32)]) (rest := []) (ws2 := fun u => wModel k a_th th_0) (c_X9_claim0 n l k a_th th_0 w2_j2 (0 : Int32) r_4 hg) E vl_X9_139 dX9_doOthersWait_24 rfl [0, 1, 2, 3, 4, 5, 6, 7, 8, 9, 10, 11, 12] 7 0 hW hA hl rfl rfl rfl rfl ⟨by decide, by decide⟩ ⟨by decide, by decide⟩ (Nat.le_of_ble_eq_true rfl) rfl (fun _ => rfl) (fun _ => rfl) (fun r u H locs hp hW => ?_)
          cases hp
          have hW : WD k A s.heap (wModel k a_th th_0) H locs := hW
          refine k_iload_n E hl 1 dX9_doOthersWait_27 rfl ?_
          refine lv_icmp_eq (tgt := 33) E.hx E.hb dX9_doOthersWait_28 (by decide) (fun hc => ?_) (fun hc => ?_)
          · have hf := oT hc hf
            obtain ⟨v2_5, ev2_5, hf⟩ := oL hf
            refine k_iinc (lv' := [(2, .int v2_5), (0, .ref (a_th 0)), (1, .int v1_0)]) E hl 2 dX9_doOthersWait_33 rfl (ev2_5.trans (congrArg (fun z => w2_j2 + z) ic_1.symm)) (by decide) rfl (fun ls hl => ?_)
            refine lv_goto (tgt := 2) E.hx E.hb dX9_doOthersWait_36 (by decide) ?_
            exact ih_2 v2_5 _ _ _ hW (lv_sub hl [1, 2, 0] rfl) hf
          · have hf := oF hc hf
            refine lv_iconst (v := (1 : Int32)) E.hx E.hb dX9_doOthersWait_31 ic_1 ?_
            exact hret _ () _ _ _ _ _ _ hW (Option.some.inj hf).symm (by decide) (by decide) (by decide) dX9_doOthersWait_32
  exact L_2 n (0 : Int32) _ _ _ hW (lv_sub hl [1, 2, 0] rfl) hf
def f_X9_canRenew (n : Nat) (th_0 : OS) (v1_0 : Int32) : Option (Int32) :=
  bnd (f_X9_loan0 n th_0 v1_0 (0 : Int32)) (fun (r_1 : Int32) =>
  bnd (f_X9_pagesOf n th_0 v1_0) (fun (r_2 : Int32) =>
  if r_2 ≤ 0 then (
  some (0 : Int32)) else (
  bnd (f_X9_isBrokenLoan n th_0 v1_0) (fun (r_3 : Int32) =>
  if r_3 = 0 then (
  bnd (f_X9_process0 n th_0 r_1 (0 : Int32)) (fun (r_4 : Int32) =>
  if r_4 = 0 then (
  bnd (f_X9_doOthersWait n th_0 r_1) (fun (r_5 : Int32) =>
  if r_5 = 0 then (
  some (1 : Int32)) else (
  some (0 : Int32)))) else (
  some (0 : Int32)))) else (
  some (0 : Int32))))))
set_option maxHeartbeats 4000000 in
set_option maxRecDepth 100000 in
theorem c_X9_canRenew (n : Nat) (l : Launch) (k : KT) (a_th : Nat → Nat) (th_0 : OS) (v1_0 : Int32) (res : (Int32)) (hf : f_X9_canRenew n th_0 v1_0 = some res) : CG l k yX9_canRenew cX9_canRenew 3 (some .boolean) 3 0 0 65 [.ref (a_th 0), .int v1_0] (wModel k a_th th_0) (Qi k (fun u : Unit => wModel k a_th th_0) (fun (r : Int32) (u : Unit) => res = r)) := by
  refine CG.ofI (by decide) (Nat.le_of_ble_eq_true rfl) (fun p e s m args below meth c A Q E hnm hW hA hret ls hl => ?_)
  have hl : lv_has ls 3 [(0, .ref (a_th 0)), (1, .int v1_0)] := hl
  unfold f_X9_canRenew at hf
  refine k_aload_n E hl 0 dX9_canRenew_0 rfl ?_
  refine k_iload_n E hl 1 dX9_canRenew_1 rfl ?_
  refine lv_iconst (v := (0 : Int32)) E.hx E.hb dX9_canRenew_2 ic_0 ?_
  obtain ⟨r_1, hg, hf⟩ := ob hf
  refine k_callVi (As := [.int v1_0, .int (0 : Int32)]) (rest := []) (ws2 := fun u => wModel k a_th th_0) (c_X9_loan0 n l k a_th th_0 v1_0 (0 : Int32) r_1 hg) E vl_X9_106 dX9_canRenew_3 rfl [0, 1, 2, 3, 4, 5, 6, 7, 8, 9, 10, 11, 12] 7 0 hW hA hl rfl rfl rfl rfl ⟨by decide, by decide⟩ ⟨by decide, by decide⟩ (Nat.le_of_ble_eq_true rfl) rfl (fun _ => rfl) (fun _ => rfl) (fun r u H locs hp hW => ?_)
  cases hp
  have hW : WD k A s.heap (wModel k a_th th_0) H locs := hW
  refine k_istore_n (lv' := [(2, .int r_1), (0, .ref (a_th 0)), (1, .int v1_0)]) E rfl hl dX9_canRenew_6 rfl (by decide) rfl (fun ls hl => ?_)
  refine k_aload_n E hl 1 dX9_canRenew_7 rfl ?_
  refine k_iload_n E hl 2 dX9_canRenew_8 rfl ?_
  obtain ⟨r_2, hg, hf⟩ := ob hf
  refine k_callVi (As := [.int v1_0]) (rest := []) (ws2 := fun u => wModel k a_th th_0) (c_X9_pagesOf n l k a_th th_0 v1_0 r_2 hg) E vl_X9_103 dX9_canRenew_9 rfl [0, 1, 2, 3, 4, 5, 6, 7, 8, 9, 10, 11, 12] 7 0 hW hA hl rfl rfl rfl rfl ⟨by decide, by decide⟩ ⟨by decide, by decide⟩ (Nat.le_of_ble_eq_true rfl) rfl (fun _ => rfl) (fun _ => rfl) (fun r u H locs hp hW => ?_)
  cases hp
  have hW : WD k A s.heap (wModel k a_th th_0) H locs := hW
  refine lv_if_le (tgt := 44) E.hx E.hb dX9_canRenew_12 (by decide) (fun hc => ?_) (fun hc => ?_)
  · have hf := oT hc hf
    refine lv_iconst (v := (0 : Int32)) E.hx E.hb dX9_canRenew_44 ic_0 ?_
    exact hret _ () _ _ _ _ _ _ hW (Option.some.inj hf).symm (by decide) (by decide) (by decide) dX9_canRenew_45
  · have hf := oF hc hf
    refine k_aload_n E hl 1 dX9_canRenew_15 rfl ?_
    refine k_iload_n E hl 2 dX9_canRenew_16 rfl ?_
    obtain ⟨r_3, hg, hf⟩ := ob hf
    refine k_callVi (As := [.int v1_0]) (rest := []) (ws2 := fun u => wModel k a_th th_0) (c_X9_isBrokenLoan n l k a_th th_0 v1_0 r_3 hg) E vl_X9_109 dX9_canRenew_17 rfl [0, 1, 2, 3, 4, 5, 6, 7, 8, 9, 10, 11, 12] 7 0 hW hA hl rfl rfl rfl rfl ⟨by decide, by decide⟩ ⟨by decide, by decide⟩ (Nat.le_of_ble_eq_true rfl) rfl (fun _ => rfl) (fun _ => rfl) (fun r u H locs hp hW => ?_)
    cases hp
    have hW : WD k A s.heap (wModel k a_th th_0) H locs := hW
    refine lv_if_ne (tgt := 44) E.hx E.hb dX9_canRenew_20 (by decide) (fun hc => ?_) (fun hc => ?_)
    · have hf := oF hc hf
      refine lv_iconst (v := (0 : Int32)) E.hx E.hb dX9_canRenew_44 ic_0 ?_
      exact hret _ () _ _ _ _ _ _ hW (Option.some.inj hf).symm (by decide) (by decide) (by decide) dX9_canRenew_45
    · have hf := oT hc hf
      refine k_aload_n E hl 1 dX9_canRenew_23 rfl ?_
      refine k_iload_n E hl 0 dX9_canRenew_24 rfl ?_
      refine lv_iconst (v := (0 : Int32)) E.hx E.hb dX9_canRenew_25 ic_0 ?_
      obtain ⟨r_4, hg, hf⟩ := ob hf
      refine k_callVi (As := [.int r_1, .int (0 : Int32)]) (rest := []) (ws2 := fun u => wModel k a_th th_0) (c_X9_process0 n l k a_th th_0 r_1 (0 : Int32) r_4 hg) E vl_X9_120 dX9_canRenew_26 rfl [0, 1, 2, 3, 4, 5, 6, 7, 8, 9, 10, 11, 12] 7 0 hW hA hl rfl rfl rfl rfl ⟨by decide, by decide⟩ ⟨by decide, by decide⟩ (Nat.le_of_ble_eq_true rfl) rfl (fun _ => rfl) (fun _ => rfl) (fun r u H locs hp hW => ?_)
      cases hp
      have hW : WD k A s.heap (wModel k a_th th_0) H locs := hW
      refine lv_if_ne (tgt := 44) E.hx E.hb dX9_canRenew_29 (by decide) (fun hc => ?_) (fun hc => ?_)
      · have hf := oF hc hf
        refine lv_iconst (v := (0 : Int32)) E.hx E.hb dX9_canRenew_44 ic_0 ?_
        exact hret _ () _ _ _ _ _ _ hW (Option.some.inj hf).symm (by decide) (by decide) (by decide) dX9_canRenew_45
      · have hf := oT hc hf
        refine k_aload_n E hl 1 dX9_canRenew_32 rfl ?_
        refine k_iload_n E hl 0 dX9_canRenew_33 rfl ?_
        obtain ⟨r_5, hg, hf⟩ := ob hf
        refine k_callVi (As := [.int r_1]) (rest := []) (ws2 := fun u => wModel k a_th th_0) (c_X9_doOthersWait n l k a_th th_0 r_1 r_5 hg) E vl_X9_238 dX9_canRenew_34 rfl [0, 1, 2, 3, 4, 5, 6, 7, 8, 9, 10, 11, 12] 7 0 hW hA hl rfl rfl rfl rfl ⟨by decide, by decide⟩ ⟨by decide, by decide⟩ (Nat.le_of_ble_eq_true rfl) rfl (fun _ => rfl) (fun _ => rfl) (fun r u H locs hp hW => ?_)
        cases hp
        have hW : WD k A s.heap (wModel k a_th th_0) H locs := hW
        refine lv_if_ne (tgt := 44) E.hx E.hb dX9_canRenew_37 (by decide) (fun hc => ?_) (fun hc => ?_)
        · have hf := oF hc hf
          refine lv_iconst (v := (0 : Int32)) E.hx E.hb dX9_canRenew_44 ic_0 ?_
          exact hret _ () _ _ _ _ _ _ hW (Option.some.inj hf).symm (by decide) (by decide) (by decide) dX9_canRenew_45
        · have hf := oT hc hf
          refine lv_iconst (v := (1 : Int32)) E.hx E.hb dX9_canRenew_40 ic_1 ?_
          refine lv_goto (tgt := 45) E.hx E.hb dX9_canRenew_41 (by decide) ?_
          exact hret _ () _ _ _ _ _ _ hW (Option.some.inj hf).symm (by decide) (by decide) (by decide) dX9_canRenew_45
def f_X9_renew (n : Nat) (th_0 : OS) (v1_0 : Int32) (v2_0 : Int32) : Option (OS × Int32) :=
  bnd (f_X9_isLoan n th_0 v1_0) (fun (r_1 : Int32) =>
  bnd2 (f_X9_is n th_0 r_1) (fun (th_2 : OS) (r_3 : Int32) =>
  if r_3 = 0 then (
  some (th_2, (0 : Int32))) else (
  bnd (f_X9_isIn n ((v2_0).toInt64) (1 : Int64) (99 : Int64)) (fun (r_4 : Int32) =>
  bnd2 (f_X9_may n th_2 r_4 (2 : Int32)) (fun (th_5 : OS) (r_6 : Int32) =>
  if r_6 = 0 then (
  some (th_5, (0 : Int32))) else (
  bnd (f_X9_canRenew n th_5 v1_0) (fun (r_7 : Int32) =>
  bnd2 (f_X9_may n th_5 r_7 (3 : Int32)) (fun (th_8 : OS) (r_9 : Int32) =>
  if r_9 = 0 then (
  some (th_8, (0 : Int32))) else (
  bnd (f_X9_starts n th_8) (fun (th_10 : OS) =>
  Let (((58 : Int32) + ((6 : Int32) * v1_0)) + (1 : Int32)) (fun v3_11 : Int32 =>
  gI 1846 v3_11 (Let ((th_10.2.1 9) v3_11.toNatClampNeg) (fun x_12 : Int32 =>
  gI 1846 v3_11 (Let (sA th_10 9 (upd (th_10.2.1 9) v3_11.toNatClampNeg (x_12 + v2_0))) (fun th_13 : OS =>
  gI 1846 v3_11 (Let ((th_13.2.1 9) v3_11.toNatClampNeg) (fun x_14 : Int32 =>
  bnd2 (f_X9_done n th_13 x_14) (fun (th_15 : OS) (r_16 : Int32) =>
  some (th_15, r_16)))))))))))))))))))
set_option maxHeartbeats 4000000 in
set_option maxRecDepth 100000 in
theorem c_X9_renew (n : Nat) (l : Launch) (k : KT) (a_th : Nat → Nat) (th_0 : OS) (v1_0 : Int32) (v2_0 : Int32) (res : (OS × Int32)) (hf : f_X9_renew n th_0 v1_0 v2_0 = some res) : CG l k yX9_renew cX9_renew 4 (some .int) 4 0 0 87 [.ref (a_th 0), .int v1_0, .int v2_0] (wModel k a_th th_0) (Qi k (fun u : OS => wModel k a_th u) (fun (r : Int32) (u : OS) => res = (u, r))) := by
  refine CG.ofI (by decide) (Nat.le_of_ble_eq_true rfl) (fun p e s m args below meth c A Q E hnm hW hA hret ls hl => ?_)
  have hl : lv_has ls 4 [(0, .ref (a_th 0)), (1, .int v1_0), (2, .int v2_0)] := hl
  unfold f_X9_renew at hf
  refine k_aload_n E hl 0 dX9_renew_0 rfl ?_
  refine k_aload_n E hl 0 dX9_renew_1 rfl ?_
  refine k_iload_n E hl 1 dX9_renew_2 rfl ?_
  obtain ⟨r_1, hg, hf⟩ := ob hf
  refine k_callVi (As := [.int v1_0]) (rest := [.ref (a_th 0)]) (ws2 := fun u => wModel k a_th th_0) (c_X9_isLoan n l k a_th th_0 v1_0 r_1 hg) E vl_X9_235 dX9_renew_3 rfl [0, 1, 2, 3, 4, 5, 6, 7, 8, 9, 10, 11, 12] 7 0 hW hA hl rfl rfl rfl rfl ⟨by decide, by decide⟩ ⟨by decide, by decide⟩ (Nat.le_of_ble_eq_true rfl) rfl (fun _ => rfl) (fun _ => rfl) (fun r u H locs hp hW => ?_)
  cases hp
  have hW : WD k A s.heap (wModel k a_th th_0) H locs := hW
  obtain ⟨th_2, r_3, hg, hf⟩ := ob2 hf
  refine k_callVi (As := [.int r_1]) (rest := []) (ws2 := fun u => wModel k a_th (u)) (c_X9_is n l k a_th th_0 r_1 (th_2, r_3) hg) E vl_X9_77 dX9_renew_6 rfl [0, 1, 2, 3, 4, 5, 6, 7, 8, 9, 10, 11, 12] 7 0 hW hA hl rfl rfl rfl rfl ⟨by decide, by decide⟩ ⟨by decide, by decide⟩ (Nat.le_of_ble_eq_true rfl) rfl (fun _ => rfl) (fun _ => rfl) (fun r u H locs hp hW => ?_)
  cases hp
  have hW : WD k A s.heap (wModel k a_th th_2) H locs := hW
  refine lv_if_eq (tgt := 42) E.hx E.hb dX9_renew_9 (by decide) (fun hc => ?_) (fun hc => ?_)
  · have hf := oT hc hf
    refine lv_iconst (v := (0 : Int32)) E.hx E.hb dX9_renew_42 ic_0 ?_
    exact hret _ th_2 _ _ _ _ _ _ hW (Option.some.inj hf).symm rfl (by decide) (by decide) dX9_renew_43
  · have hf := oF hc hf
    refine k_aload_n E hl 0 dX9_renew_12 rfl ?_
    refine k_iload_n E hl 2 dX9_renew_13 rfl ?_
    refine lv_i2l (v := (v2_0).toInt64) E.hx E.hb dX9_renew_14 rfl ?_
    refine lv_lconst (v := (1 : Int64)) E.hx E.hb dX9_renew_15 (by decide) ?_
    refine lv_ldc2 E.hx E.hb E.ho (E.w tm_1600 rfl) dX9_renew_16 ?_
    obtain ⟨r_4, hg, hf⟩ := ob hf
    refine k_callSi (As := [.long ((v2_0).toInt64), .long (1 : Int64), .long (99 : Int64)]) (rest := [.ref (a_th 0)]) (ws2 := fun u => wModel k a_th th_2) (c_X9_isIn n l k ((v2_0).toInt64) (1 : Int64) (99 : Int64) r_4 hg) E sl_X9_92 dX9_renew_19 rfl [] hW hA hl rfl rfl ⟨by decide, by decide⟩ ⟨by decide, by decide⟩ (Nat.le_of_ble_eq_true rfl) rfl (fun _ => rfl) (fun _ => rfl) (fun r u H locs hp hW => ?_)
    cases hp
    have hW : WD k A s.heap (wModel k a_th th_2) H locs := hW
    refine lv_iconst (v := (2 : Int32)) E.hx E.hb dX9_renew_22 ic_2 ?_
    obtain ⟨th_5, r_6, hg, hf⟩ := ob2 hf
    refine k_callVi (As := [.int r_4, .int (2 : Int32)]) (rest := []) (ws2 := fun u => wModel k a_th (u)) (c_X9_may n l k a_th th_2 r_4 (2 : Int32) (th_5, r_6) hg) E vl_X9_210 dX9_renew_23 rfl [0, 1, 2, 3, 4, 5, 6, 7, 8, 9, 10, 11, 12] 7 0 hW hA hl rfl rfl rfl rfl ⟨by decide, by decide⟩ ⟨by decide, by decide⟩ (Nat.le_of_ble_eq_true rfl) rfl (fun _ => rfl) (fun _ => rfl) (fun r u H locs hp hW => ?_)
    cases hp
    have hW : WD k A s.heap (wModel k a_th th_5) H locs := hW
    refine lv_if_eq (tgt := 42) E.hx E.hb dX9_renew_26 (by decide) (fun hc => ?_) (fun hc => ?_)
    · have hf := oT hc hf
      refine lv_iconst (v := (0 : Int32)) E.hx E.hb dX9_renew_42 ic_0 ?_
      exact hret _ th_5 _ _ _ _ _ _ hW (Option.some.inj hf).symm rfl (by decide) (by decide) dX9_renew_43
    · have hf := oF hc hf
      refine k_aload_n E hl 0 dX9_renew_29 rfl ?_
      refine k_aload_n E hl 0 dX9_renew_30 rfl ?_
      refine k_iload_n E hl 1 dX9_renew_31 rfl ?_
      obtain ⟨r_7, hg, hf⟩ := ob hf
      refine k_callVi (As := [.int v1_0]) (rest := [.ref (a_th 0)]) (ws2 := fun u => wModel k a_th th_5) (c_X9_canRenew n l k a_th th_5 v1_0 r_7 hg) E vl_X9_241 dX9_renew_32 rfl [0, 1, 2, 3, 4, 5, 6, 7, 8, 9, 10, 11, 12] 7 0 hW hA hl rfl rfl rfl rfl ⟨by decide, by decide⟩ ⟨by decide, by decide⟩ (Nat.le_of_ble_eq_true rfl) rfl (fun _ => rfl) (fun _ => rfl) (fun r u H locs hp hW => ?_)
      cases hp
      have hW : WD k A s.heap (wModel k a_th th_5) H locs := hW
      refine lv_iconst (v := (3 : Int32)) E.hx E.hb dX9_renew_35 ic_3 ?_
      obtain ⟨th_8, r_9, hg, hf⟩ := ob2 hf
      refine k_callVi (As := [.int r_7, .int (3 : Int32)]) (rest := []) (ws2 := fun u => wModel k a_th (u)) (c_X9_may n l k a_th th_5 r_7 (3 : Int32) (th_8, r_9) hg) E vl_X9_210 dX9_renew_36 rfl [0, 1, 2, 3, 4, 5, 6, 7, 8, 9, 10, 11, 12] 7 0 hW hA hl rfl rfl rfl rfl ⟨by decide, by decide⟩ ⟨by decide, by decide⟩ (Nat.le_of_ble_eq_true rfl) rfl (fun _ => rfl) (fun _ => rfl) (fun r u H locs hp hW => ?_)
      cases hp
      have hW : WD k A s.heap (wModel k a_th th_8) H locs := hW
      refine lv_if_ne (tgt := 44) E.hx E.hb dX9_renew_39 (by decide) (fun hc => ?_) (fun hc => ?_)
      · have hf := oF hc hf
        refine k_aload_n E hl 0 dX9_renew_44 rfl ?_
        obtain ⟨th_10, hg, hf⟩ := ob hf
        refine k_callVv (As := []) (rest := []) (ws2 := fun u => wModel k a_th (u)) (c_X9_starts n l k a_th th_8 th_10 hg) E vl_X9_214 dX9_renew_45 rfl [0, 1, 2, 3, 4, 5, 6, 7, 8, 9, 10, 11, 12] 7 0 hW hA hl rfl rfl rfl rfl ⟨by decide, by decide⟩ ⟨by decide, by decide⟩ (Nat.le_of_ble_eq_true rfl) rfl (fun _ => rfl) (fun _ => rfl) (fun u H locs hp hW => ?_)
        cases hp
        have hW : WD k A s.heap (wModel k a_th th_10) H locs := hW
        refine lv_bipush (v := (58 : Int32)) E.hx E.hb dX9_renew_48 bp_58 ?_
        refine lv_bipush (v := (6 : Int32)) E.hx E.hb dX9_renew_50 bp_6 ?_
        refine k_iload_n E hl 1 dX9_renew_52 rfl ?_
        refine lv_imul E.hx E.hb dX9_renew_53 ?_
        refine lv_iadd E.hx E.hb dX9_renew_54 ?_
        refine lv_iconst (v := (1 : Int32)) E.hx E.hb dX9_renew_55 ic_1 ?_
        refine lv_iadd E.hx E.hb dX9_renew_56 ?_
        obtain ⟨v3_11, ev3_11, hf⟩ := oL hf
        refine k_istore_n (lv' := [(3, .int v3_11), (0, .ref (a_th 0)), (1, .int v1_0), (2, .int v2_0)]) E ev3_11 hl dX9_renew_57 rfl (by decide) rfl (fun ls hl => ?_)
        refine k_aload_n E hl 1 dX9_renew_58 rfl ?_
        refine gf_X9_13 E hW 0 rfl rfl dX9_renew_59 ?_
        refine k_iload_n E hl 0 dX9_renew_62 rfl ?_
        refine k_aload_n E hl 1 dX9_renew_63 rfl ?_
        refine gf_X9_13 E hW 0 rfl rfl dX9_renew_64 ?_
        refine k_iload_n E hl 0 dX9_renew_67 rfl ?_
        obtain ⟨hin, hf⟩ := oI hf
        obtain ⟨x_12, ex_12, hf⟩ := oL hf
        refine k_iald E hW 2 rfl hin dX9_renew_68 ?_
        refine k_topi ex_12 ?_
        refine k_iload_n E hl 3 dX9_renew_69 rfl ?_
        refine lv_iadd E.hx E.hb dX9_renew_70 ?_
        obtain ⟨hin, hf⟩ := oI hf
        obtain ⟨th_13, eth_13, hf⟩ := oL hf
        refine k_iast (ws2 := wModel k a_th th_13) E hW 2 rfl hin dX9_renew_71 (by rw [eth_13]; rfl) (fun H locs hW => ?_)
        refine k_aload_n E hl 1 dX9_renew_72 rfl ?_
        refine k_aload_n E hl 1 dX9_renew_73 rfl ?_
        refine gf_X9_13 E hW 0 rfl rfl dX9_renew_74 ?_
        refine k_iload_n E hl 0 dX9_renew_77 rfl ?_
        obtain ⟨hin, hf⟩ := oI hf
        obtain ⟨x_14, ex_14, hf⟩ := oL hf
        refine k_iald E hW 2 rfl hin dX9_renew_78 ?_
        refine k_topi ex_14 ?_
        obtain ⟨th_15, r_16, hg, hf⟩ := ob2 hf
        refine k_callVi (As := [.int x_14]) (rest := []) (ws2 := fun u => wModel k a_th (u)) (c_X9_done n l k a_th th_13 x_14 (th_15, r_16) hg) E vl_X9_220 dX9_renew_79 rfl [0, 1, 2, 3, 4, 5, 6, 7, 8, 9, 10, 11, 12] 7 0 hW hA hl rfl rfl rfl rfl ⟨by decide, by decide⟩ ⟨by decide, by decide⟩ (Nat.le_of_ble_eq_true rfl) rfl (fun _ => rfl) (fun _ => rfl) (fun r u H locs hp hW => ?_)
        cases hp
        have hW : WD k A s.heap (wModel k a_th th_15) H locs := hW
        exact hret _ th_15 _ _ _ _ _ _ hW (Option.some.inj hf).symm rfl (by decide) (by decide) dX9_renew_82
      · have hf := oT hc hf
        refine lv_iconst (v := (0 : Int32)) E.hx E.hb dX9_renew_42 ic_0 ?_
        exact hret _ th_8 _ _ _ _ _ _ hW (Option.some.inj hf).symm rfl (by decide) (by decide) dX9_renew_43
def f_X9_stall (n : Nat) (th_0 : OS) (v1_0 : Int32) (v2_0 : Int32) : Option (OS × Int32) :=
  bnd (f_X9_isProcess n th_0 v1_0) (fun (r_1 : Int32) =>
  bnd2 (f_X9_is n th_0 r_1) (fun (th_2 : OS) (r_3 : Int32) =>
  if r_3 = 0 then (
  some (th_2, (0 : Int32))) else (
  bnd (f_X9_isIn n ((v2_0).toInt64) (0 : Int64) (99 : Int64)) (fun (r_4 : Int32) =>
  bnd2 (f_X9_may n th_2 r_4 (2 : Int32)) (fun (th_5 : OS) (r_6 : Int32) =>
  if r_6 = 0 then (
  some (th_5, (0 : Int32))) else (
  bnd (f_X9_starts n th_5) (fun (th_7 : OS) =>
  bnd (f_X9_process0 n th_7 v1_0 (2 : Int32)) (fun (r_8 : Int32) =>
  bnd (f_X9_sets n th_7 v1_0 (2 : Int32) v2_0) (fun (th_9 : OS) =>
  bnd2 (f_X9_done n th_9 r_8) (fun (th_10 : OS) (r_11 : Int32) =>
  some (th_10, r_11)))))))))))
set_option maxHeartbeats 4000000 in
set_option maxRecDepth 100000 in
theorem c_X9_stall (n : Nat) (l : Launch) (k : KT) (a_th : Nat → Nat) (th_0 : OS) (v1_0 : Int32) (v2_0 : Int32) (res : (OS × Int32)) (hf : f_X9_stall n th_0 v1_0 v2_0 = some res) : CG l k yX9_stall cX9_stall 4 (some .int) 2 0 0 46 [.ref (a_th 0), .int v1_0, .int v2_0] (wModel k a_th th_0) (Qi k (fun u : OS => wModel k a_th u) (fun (r : Int32) (u : OS) => res = (u, r))) := by
  refine CG.ofI (by decide) (Nat.le_of_ble_eq_true rfl) (fun p e s m args below meth c A Q E hnm hW hA hret ls hl => ?_)
  have hl : lv_has ls 4 [(0, .ref (a_th 0)), (1, .int v1_0), (2, .int v2_0)] := hl
  unfold f_X9_stall at hf
  refine k_aload_n E hl 0 dX9_stall_0 rfl ?_
  refine k_aload_n E hl 0 dX9_stall_1 rfl ?_
  refine k_iload_n E hl 1 dX9_stall_2 rfl ?_
  obtain ⟨r_1, hg, hf⟩ := ob hf
  refine k_callVi (As := [.int v1_0]) (rest := [.ref (a_th 0)]) (ws2 := fun u => wModel k a_th th_0) (c_X9_isProcess n l k a_th th_0 v1_0 r_1 hg) E vl_X9_223 dX9_stall_3 rfl [0, 1, 2, 3, 4, 5, 6, 7, 8, 9, 10, 11, 12] 7 0 hW hA hl rfl rfl rfl rfl ⟨by decide, by decide⟩ ⟨by decide, by decide⟩ (Nat.le_of_ble_eq_true rfl) rfl (fun _ => rfl) (fun _ => rfl) (fun r u H locs hp hW => ?_)
  cases hp
  have hW : WD k A s.heap (wModel k a_th th_0) H locs := hW
  obtain ⟨th_2, r_3, hg, hf⟩ := ob2 hf
  refine k_callVi (As := [.int r_1]) (rest := []) (ws2 := fun u => wModel k a_th (u)) (c_X9_is n l k a_th th_0 r_1 (th_2, r_3) hg) E vl_X9_77 dX9_stall_6 rfl [0, 1, 2, 3, 4, 5, 6, 7, 8, 9, 10, 11, 12] 7 0 hW hA hl rfl rfl rfl rfl ⟨by decide, by decide⟩ ⟨by decide, by decide⟩ (Nat.le_of_ble_eq_true rfl) rfl (fun _ => rfl) (fun _ => rfl) (fun r u H locs hp hW => ?_)
  cases hp
  have hW : WD k A s.heap (wModel k a_th th_2) H locs := hW
  refine lv_if_eq (tgt := 29) E.hx E.hb dX9_stall_9 (by decide) (fun hc => ?_) (fun hc => ?_)
  · have hf := oT hc hf
    refine lv_iconst (v := (0 : Int32)) E.hx E.hb dX9_stall_29 ic_0 ?_
    exact hret _ th_2 _ _ _ _ _ _ hW (Option.some.inj hf).symm rfl (by decide) (by decide) dX9_stall_30
  · have hf := oF hc hf
    refine k_aload_n E hl 0 dX9_stall_12 rfl ?_
    refine k_iload_n E hl 2 dX9_stall_13 rfl ?_
    refine lv_i2l (v := (v2_0).toInt64) E.hx E.hb dX9_stall_14 rfl ?_
    refine lv_lconst (v := (0 : Int64)) E.hx E.hb dX9_stall_15 (by decide) ?_
    refine lv_ldc2 E.hx E.hb E.ho (E.w tm_1600 rfl) dX9_stall_16 ?_
    obtain ⟨r_4, hg, hf⟩ := ob hf
    refine k_callSi (As := [.long ((v2_0).toInt64), .long (0 : Int64), .long (99 : Int64)]) (rest := [.ref (a_th 0)]) (ws2 := fun u => wModel k a_th th_2) (c_X9_isIn n l k ((v2_0).toInt64) (0 : Int64) (99 : Int64) r_4 hg) E sl_X9_92 dX9_stall_19 rfl [] hW hA hl rfl rfl ⟨by decide, by decide⟩ ⟨by decide, by decide⟩ (Nat.le_of_ble_eq_true rfl) rfl (fun _ => rfl) (fun _ => rfl) (fun r u H locs hp hW => ?_)
    cases hp
    have hW : WD k A s.heap (wModel k a_th th_2) H locs := hW
    refine lv_iconst (v := (2 : Int32)) E.hx E.hb dX9_stall_22 ic_2 ?_
    obtain ⟨th_5, r_6, hg, hf⟩ := ob2 hf
    refine k_callVi (As := [.int r_4, .int (2 : Int32)]) (rest := []) (ws2 := fun u => wModel k a_th (u)) (c_X9_may n l k a_th th_2 r_4 (2 : Int32) (th_5, r_6) hg) E vl_X9_210 dX9_stall_23 rfl [0, 1, 2, 3, 4, 5, 6, 7, 8, 9, 10, 11, 12] 7 0 hW hA hl rfl rfl rfl rfl ⟨by decide, by decide⟩ ⟨by decide, by decide⟩ (Nat.le_of_ble_eq_true rfl) rfl (fun _ => rfl) (fun _ => rfl) (fun r u H locs hp hW => ?_)
    cases hp
    have hW : WD k A s.heap (wModel k a_th th_5) H locs := hW
    refine lv_if_ne (tgt := 31) E.hx E.hb dX9_stall_26 (by decide) (fun hc => ?_) (fun hc => ?_)
    · have hf := oF hc hf
      refine k_aload_n E hl 0 dX9_stall_31 rfl ?_
      obtain ⟨th_7, hg, hf⟩ := ob hf
      refine k_callVv (As := []) (rest := []) (ws2 := fun u => wModel k a_th (u)) (c_X9_starts n l k a_th th_5 th_7 hg) E vl_X9_214 dX9_stall_32 rfl [0, 1, 2, 3, 4, 5, 6, 7, 8, 9, 10, 11, 12] 7 0 hW hA hl rfl rfl rfl rfl ⟨by decide, by decide⟩ ⟨by decide, by decide⟩ (Nat.le_of_ble_eq_true rfl) rfl (fun _ => rfl) (fun _ => rfl) (fun u H locs hp hW => ?_)
      cases hp
      have hW : WD k A s.heap (wModel k a_th th_7) H locs := hW
      refine k_aload_n E hl 0 dX9_stall_35 rfl ?_
      refine k_iload_n E hl 1 dX9_stall_36 rfl ?_
      refine lv_iconst (v := (2 : Int32)) E.hx E.hb dX9_stall_37 ic_2 ?_
      obtain ⟨r_8, hg, hf⟩ := ob hf
      refine k_callVi (As := [.int v1_0, .int (2 : Int32)]) (rest := []) (ws2 := fun u => wModel k a_th th_7) (c_X9_process0 n l k a_th th_7 v1_0 (2 : Int32) r_8 hg) E vl_X9_120 dX9_stall_38 rfl [0, 1, 2, 3, 4, 5, 6, 7, 8, 9, 10, 11, 12] 7 0 hW hA hl rfl rfl rfl rfl ⟨by decide, by decide⟩ ⟨by decide, by decide⟩ (Nat.le_of_ble_eq_true rfl) rfl (fun _ => rfl) (fun _ => rfl) (fun r u H locs hp hW => ?_)
      cases hp
      have hW : WD k A s.heap (wModel k a_th th_7) H locs := hW
      refine k_istore_n (lv' := [(3, .int r_8), (0, .ref (a_th 0)), (1, .int v1_0), (2, .int v2_0)]) E rfl hl dX9_stall_41 rfl (by decide) rfl (fun ls hl => ?_)
      refine k_aload_n E hl 1 dX9_stall_42 rfl ?_
      refine k_iload_n E hl 2 dX9_stall_43 rfl ?_
      refine lv_iconst (v := (2 : Int32)) E.hx E.hb dX9_stall_44 ic_2 ?_
      refine k_iload_n E hl 3 dX9_stall_45 rfl ?_
      obtain ⟨th_9, hg, hf⟩ := ob hf
      refine k_callVv (As := [.int v1_0, .int (2 : Int32), .int v2_0]) (rest := []) (ws2 := fun u => wModel k a_th (u)) (c_X9_sets n l k a_th th_7 v1_0 (2 : Int32) v2_0 th_9 hg) E vl_X9_129 dX9_stall_46 rfl [0, 1, 2, 3, 4, 5, 6, 7, 8, 9, 10, 11, 12] 7 0 hW hA hl rfl rfl rfl rfl ⟨by decide, by decide⟩ ⟨by decide, by decide⟩ (Nat.le_of_ble_eq_true rfl) rfl (fun _ => rfl) (fun _ => rfl) (fun u H locs hp hW => ?_)
      cases hp
      have hW : WD k A s.heap (wModel k a_th th_9) H locs := hW
      refine k_aload_n E hl 1 dX9_stall_49 rfl ?_
      refine k_iload_n E hl 0 dX9_stall_50 rfl ?_
      obtain ⟨th_10, r_11, hg, hf⟩ := ob2 hf
      refine k_callVi (As := [.int r_8]) (rest := []) (ws2 := fun u => wModel k a_th (u)) (c_X9_done n l k a_th th_9 r_8 (th_10, r_11) hg) E vl_X9_220 dX9_stall_51 rfl [0, 1, 2, 3, 4, 5, 6, 7, 8, 9, 10, 11, 12] 7 0 hW hA hl rfl rfl rfl rfl ⟨by decide, by decide⟩ ⟨by decide, by decide⟩ (Nat.le_of_ble_eq_true rfl) rfl (fun _ => rfl) (fun _ => rfl) (fun r u H locs hp hW => ?_)
      cases hp
      have hW : WD k A s.heap (wModel k a_th th_10) H locs := hW
      exact hret _ th_10 _ _ _ _ _ _ hW (Option.some.inj hf).symm rfl (by decide) (by decide) dX9_stall_54
    · have hf := oT hc hf
      refine lv_iconst (v := (0 : Int32)) E.hx E.hb dX9_stall_29 ic_0 ?_
      exact hret _ th_5 _ _ _ _ _ _ hW (Option.some.inj hf).symm rfl (by decide) (by decide) dX9_stall_30
def f_X9_wasStalledIn (n : Nat) (th_0 : OS) (v1_0 : Int32) (v2_0 : Int32) : Option (Int32) :=
  bnd (f_X9_wordOf n v1_0 v2_0) (fun (r_1 : Int32) =>
  gI 1846 r_1 (Let ((th_0.2.1 9) r_1.toNatClampNeg) (fun x_2 : Int32 =>
  if ((x_2 >>> ((rm32 v2_0 (32 : Int32)) &&& 31)) &&& (1 : Int32)) = (1 : Int32) then (
  some (1 : Int32)) else (
  some (0 : Int32)))))
set_option maxHeartbeats 4000000 in
set_option maxRecDepth 100000 in
theorem c_X9_wasStalledIn (n : Nat) (l : Launch) (k : KT) (a_th : Nat → Nat) (th_0 : OS) (v1_0 : Int32) (v2_0 : Int32) (res : (Int32)) (hf : f_X9_wasStalledIn n th_0 v1_0 v2_0 = some res) : CG l k yX9_wasStalledIn cX9_wasStalledIn 3 (some .boolean) 1 0 0 21 [.ref (a_th 0), .int v1_0, .int v2_0] (wModel k a_th th_0) (Qi k (fun u : Unit => wModel k a_th th_0) (fun (r : Int32) (u : Unit) => res = r)) := by
  refine CG.ofI (by decide) (Nat.le_of_ble_eq_true rfl) (fun p e s m args below meth c A Q E hnm hW hA hret ls hl => ?_)
  have hl : lv_has ls 3 [(0, .ref (a_th 0)), (1, .int v1_0), (2, .int v2_0)] := hl
  unfold f_X9_wasStalledIn at hf
  refine k_aload_n E hl 0 dX9_wasStalledIn_0 rfl ?_
  refine gf_X9_13 E hW 0 rfl rfl dX9_wasStalledIn_1 ?_
  refine k_iload_n E hl 1 dX9_wasStalledIn_4 rfl ?_
  refine k_iload_n E hl 2 dX9_wasStalledIn_5 rfl ?_
  obtain ⟨r_1, hg, hf⟩ := ob hf
  refine k_callSi (As := [.int v1_0, .int v2_0]) (rest := [.ref (a_th 2)]) (ws2 := fun u => wModel k a_th th_0) (c_X9_wordOf n l k v1_0 v2_0 r_1 hg) E sl_X9_199 dX9_wasStalledIn_6 rfl [] hW hA hl rfl rfl ⟨by decide, by decide⟩ ⟨by decide, by decide⟩ (Nat.le_of_ble_eq_true rfl) rfl (fun _ => rfl) (fun _ => rfl) (fun r u H locs hp hW => ?_)
  cases hp
  have hW : WD k A s.heap (wModel k a_th th_0) H locs := hW
  obtain ⟨hin, hf⟩ := oI hf
  obtain ⟨x_2, ex_2, hf⟩ := oL hf
  refine k_iald E hW 2 rfl hin dX9_wasStalledIn_9 ?_
  refine k_topi ex_2 ?_
  refine k_iload_n E hl 2 dX9_wasStalledIn_10 rfl ?_
  refine lv_bipush (v := (32 : Int32)) E.hx E.hb dX9_wasStalledIn_11 bp_32 ?_
  refine lv_irem E.hx E.hb dX9_wasStalledIn_13 (by decide) ?_
  refine lv_ishr E.hx E.hb dX9_wasStalledIn_14 ?_
  refine lv_iconst (v := (1 : Int32)) E.hx E.hb dX9_wasStalledIn_15 ic_1 ?_
  refine lv_iand E.hx E.hb dX9_wasStalledIn_16 ?_
  refine lv_iconst (v := (1 : Int32)) E.hx E.hb dX9_wasStalledIn_17 ic_1 ?_
  refine lv_icmp_ne (tgt := 25) E.hx E.hb dX9_wasStalledIn_18 (by decide) (fun hc => ?_) (fun hc => ?_)
  · have hf := oF hc hf
    refine lv_iconst (v := (0 : Int32)) E.hx E.hb dX9_wasStalledIn_25 ic_0 ?_
    exact hret _ () _ _ _ _ _ _ hW (Option.some.inj hf).symm (by decide) (by decide) (by decide) dX9_wasStalledIn_26
  · have hf := oT hc hf
    refine lv_iconst (v := (1 : Int32)) E.hx E.hb dX9_wasStalledIn_21 ic_1 ?_
    refine lv_goto (tgt := 26) E.hx E.hb dX9_wasStalledIn_22 (by decide) ?_
    exact hret _ () _ _ _ _ _ _ hW (Option.some.inj hf).symm (by decide) (by decide) (by decide) dX9_wasStalledIn_26
def s_X9_evidenceFor_11 (n : Nat) (th_0 : OS) (w1_j11 : Int32) (rc_11 : (Int32) → (Int32) → Option (Int32)) (w2_j11 : Int32) (w3_j11 : Int32) : Option (Int32) :=
  bnd (f_X9_fine0 n th_0 w1_j11 (4 : Int32)) (fun (r_3 : Int32) =>
  if r_3 < w3_j11 then (
  some w2_j11) else (
  bnd (f_X9_fine0 n th_0 w1_j11 (0 : Int32)) (fun (r_4 : Int32) =>
  bnd (f_X9_wasStalledIn n th_0 r_4 w3_j11) (fun (r_5 : Int32) =>
  if r_5 = 0 then (
  Let (w3_j11 + (1 : Int32)) (fun v3_6 : Int32 =>
  rc_11 w2_j11 v3_6)) else (
  Let (w2_j11 + (1 : Int32)) (fun v2_7 : Int32 =>
  Let (w3_j11 + (1 : Int32)) (fun v3_8 : Int32 =>
  rc_11 v2_7 v3_8)))))))
def l_X9_evidenceFor_11 (n : Nat) (th_0 : OS) (w1_j11 : Int32) : Nat → (Int32) → (Int32) → Option (Int32)
  | 0 => fun _ _ => none
  | N + 1 => s_X9_evidenceFor_11 n th_0 w1_j11 (l_X9_evidenceFor_11 n th_0 w1_j11 N)
def f_X9_evidenceFor (n : Nat) (th_0 : OS) (v1_0 : Int32) : Option (Int32) :=
  bnd (f_X9_fine0 n th_0 v1_0 (3 : Int32)) (fun (r_1 : Int32) =>
  Let (r_1 + (1 : Int32)) (fun v3_2 : Int32 =>
  l_X9_evidenceFor_11 n th_0 v1_0 n (0 : Int32) v3_2))
set_option maxHeartbeats 4000000 in
set_option maxRecDepth 100000 in
theorem c_X9_evidenceFor (n : Nat) (l : Launch) (k : KT) (a_th : Nat → Nat) (th_0 : OS) (v1_0 : Int32) (res : (Int32)) (hf : f_X9_evidenceFor n th_0 v1_0 = some res) : CG l k yX9_evidenceFor cX9_evidenceFor 4 (some .int) 2 0 0 43 [.ref (a_th 0), .int v1_0] (wModel k a_th th_0) (Qi k (fun u : Unit => wModel k a_th th_0) (fun (r : Int32) (u : Unit) => res = r)) := by
  refine CG.ofI (by decide) (Nat.le_of_ble_eq_true rfl) (fun p e s m args below meth c A Q E hnm hW hA hret ls hl => ?_)
  have hl : lv_has ls 4 [(0, .ref (a_th 0)), (1, .int v1_0)] := hl
  unfold f_X9_evidenceFor at hf
  refine lv_iconst (v := (0 : Int32)) E.hx E.hb dX9_evidenceFor_0 ic_0 ?_
  refine k_istore_n (lv' := [(2, .int (0 : Int32)), (0, .ref (a_th 0)), (1, .int v1_0)]) E rfl hl dX9_evidenceFor_1 rfl (by decide) rfl (fun ls hl => ?_)
  refine k_aload_n E hl 1 dX9_evidenceFor_2 rfl ?_
  refine k_iload_n E hl 2 dX9_evidenceFor_3 rfl ?_
  refine lv_iconst (v := (3 : Int32)) E.hx E.hb dX9_evidenceFor_4 ic_3 ?_
  obtain ⟨r_1, hg, hf⟩ := ob hf
  refine k_callVi (As := [.int v1_0, .int (3 : Int32)]) (rest := []) (ws2 := fun u => wModel k a_th th_0) (c_X9_fine0 n l k a_th th_0 v1_0 (3 : Int32) r_1 hg) E vl_X9_244 dX9_evidenceFor_5 rfl [0, 1, 2, 3, 4, 5, 6, 7, 8, 9, 10, 11, 12] 7 0 hW hA hl rfl rfl rfl rfl ⟨by decide, by decide⟩ ⟨by decide, by decide⟩ (Nat.le_of_ble_eq_true rfl) rfl (fun _ => rfl) (fun _ => rfl) (fun r u H locs hp hW => ?_)
  cases hp
  have hW : WD k A s.heap (wModel k a_th th_0) H locs := hW
  refine lv_iconst (v := (1 : Int32)) E.hx E.hb dX9_evidenceFor_8 ic_1 ?_
  refine lv_iadd E.hx E.hb dX9_evidenceFor_9 ?_
  obtain ⟨v3_2, ev3_2, hf⟩ := oL hf
  refine k_istore_n (lv' := [(3, .int v3_2), (2, .int (0 : Int32)), (0, .ref (a_th 0)), (1, .int v1_0)]) E ev3_2 hl dX9_evidenceFor_10 rfl (by decide) rfl (fun ls hl => ?_)
  have L_11 : ∀ (N_11 : Nat) (w2_j11 : Int32) (w3_j11 : Int32) (H : Heap) (locs : List Loc) (ls : Array Slot) (hW : WD k A s.heap (wModel k a_th th_0) H locs) (hl : lv_has ls 4 [(0, .ref (a_th 0)), (1, .int v1_0), (2, .int w2_j11), (3, .int w3_j11)]) (hf : l_X9_evidenceFor_11 n th_0 v1_0 N_11 w2_j11 w3_j11 = some res), W p l e { frames := 2, cells := 0, slots := 0, locals := 43 } s m args below meth c H locs 0 0 Q (F0 m 11 ls []) := by
    intro N_11
    induction N_11 with
    | zero => intro w2_j11 w3_j11 H locs ls hW hl hf; exact o0 hf
    | succ N_11 ih_11 =>
      intro w2_j11 w3_j11 H locs ls hW hl hf
      have hf : s_X9_evidenceFor_11 n th_0 v1_0 (l_X9_evidenceFor_11 n th_0 v1_0 N_11) w2_j11 w3_j11 = some res := hf
      unfold s_X9_evidenceFor_11 at hf
      refine k_iload_n E hl 3 dX9_evidenceFor_11 rfl ?_
      refine k_aload_n E hl 0 dX9_evidenceFor_12 rfl ?_
      refine k_iload_n E hl 1 dX9_evidenceFor_13 rfl ?_
      refine lv_iconst (v := (4 : Int32)) E.hx E.hb dX9_evidenceFor_14 ic_4 ?_
      obtain ⟨r_3, hg, hf⟩ := ob hf
      refine k_callVi (As := [.int v1_0, .int (4 : Int32)]) (rest := [.int w3_j11]) (ws2 := fun u => wModel k a_th th_0) (c_X9_fine0 n l k a_th th_0 v1_0 (4 : Int32) r_3 hg) E vl_X9_244 dX9_evidenceFor_15 rfl [0, 1, 2, 3, 4, 5, 6, 7, 8, 9, 10, 11, 12] 7 0 hW hA hl rfl rfl rfl rfl ⟨by decide, by decide⟩ ⟨by decide, by decide⟩ (Nat.le_of_ble_eq_true rfl) rfl (fun _ => rfl) (fun _ => rfl) (fun r u H locs hp hW => ?_)
      cases hp
      have hW : WD k A s.heap (wModel k a_th th_0) H locs := hW
      refine lv_icmp_gt (tgt := 45) E.hx E.hb dX9_evidenceFor_18 (by decide) (fun hc => ?_) (fun hc => ?_)
      · have hf := oT hc hf
        refine k_iload_n E hl 2 dX9_evidenceFor_45 rfl ?_
        exact hret _ () _ _ _ _ _ _ hW (Option.some.inj hf).symm rfl (by decide) (by decide) dX9_evidenceFor_46
      · have hf := oF hc hf
        refine k_aload_n E hl 0 dX9_evidenceFor_21 rfl ?_
        refine k_aload_n E hl 0 dX9_evidenceFor_22 rfl ?_
        refine k_iload_n E hl 1 dX9_evidenceFor_23 rfl ?_
        refine lv_iconst (v := (0 : Int32)) E.hx E.hb dX9_evidenceFor_24 ic_0 ?_
        obtain ⟨r_4, hg, hf⟩ := ob hf
        refine k_callVi (As := [.int v1_0, .int (0 : Int32)]) (rest := [.ref (a_th 0)]) (ws2 := fun u => wModel k a_th th_0) (c_X9_fine0 n l k a_th th_0 v1_0 (0 : Int32) r_4 hg) E vl_X9_244 dX9_evidenceFor_25 rfl [0, 1, 2, 3, 4, 5, 6, 7, 8, 9, 10, 11, 12] 7 0 hW hA hl rfl rfl rfl rfl ⟨by decide, by decide⟩ ⟨by decide, by decide⟩ (Nat.le_of_ble_eq_true rfl) rfl (fun _ => rfl) (fun _ => rfl) (fun r u H locs hp hW => ?_)
        cases hp
        have hW : WD k A s.heap (wModel k a_th th_0) H locs := hW
        refine k_iload_n E hl 3 dX9_evidenceFor_28 rfl ?_
        obtain ⟨r_5, hg, hf⟩ := ob hf
        refine k_callVi (As := [.int r_4, .int w3_j11]) (rest := []) (ws2 := fun u => wModel k a_th th_0) (c_X9_wasStalledIn n l k a_th th_0 r_4 w3_j11 r_5 hg) E vl_X9_247 dX9_evidenceFor_29 rfl [0, 1, 2, 3, 4, 5, 6, 7, 8, 9, 10, 11, 12] 7 0 hW hA hl rfl rfl rfl rfl ⟨by decide, by decide⟩ ⟨by decide, by decide⟩ (Nat.le_of_ble_eq_true rfl) rfl (fun _ => rfl) (fun _ => rfl) (fun r u H locs hp hW => ?_)
        cases hp
        have hW : WD k A s.heap (wModel k a_th th_0) H locs := hW
        refine lv_if_eq (tgt := 39) E.hx E.hb dX9_evidenceFor_32 (by decide) (fun hc => ?_) (fun hc => ?_)
        · have hf := oT hc hf
          obtain ⟨v3_6, ev3_6, hf⟩ := oL hf
          refine k_iinc (lv' := [(3, .int v3_6), (0, .ref (a_th 0)), (1, .int v1_0), (2, .int w2_j11)]) E hl 3 dX9_evidenceFor_39 rfl (ev3_6.trans (congrArg (fun z => w3_j11 + z) ic_1.symm)) (by decide) rfl (fun ls hl => ?_)
          refine lv_goto (tgt := 11) E.hx E.hb dX9_evidenceFor_42 (by decide) ?_
          exact ih_11 w2_j11 v3_6 _ _ _ hW (lv_sub hl [1, 2, 3, 0] rfl) hf
        · have hf := oF hc hf
          refine k_iload_n E hl 2 dX9_evidenceFor_35 rfl ?_
          refine lv_iconst (v := (1 : Int32)) E.hx E.hb dX9_evidenceFor_36 ic_1 ?_
          refine lv_iadd E.hx E.hb dX9_evidenceFor_37 ?_
          obtain ⟨v2_7, ev2_7, hf⟩ := oL hf
          refine k_istore_n (lv' := [(2, .int v2_7), (0, .ref (a_th 0)), (1, .int v1_0), (3, .int w3_j11)]) E ev2_7 hl dX9_evidenceFor_38 rfl (by decide) rfl (fun ls hl => ?_)
          obtain ⟨v3_8, ev3_8, hf⟩ := oL hf
          refine k_iinc (lv' := [(3, .int v3_8), (2, .int v2_7), (0, .ref (a_th 0)), (1, .int v1_0)]) E hl 3 dX9_evidenceFor_39 rfl (ev3_8.trans (congrArg (fun z => w3_j11 + z) ic_1.symm)) (by decide) rfl (fun ls hl => ?_)
          refine lv_goto (tgt := 11) E.hx E.hb dX9_evidenceFor_42 (by decide) ?_
          exact ih_11 v2_7 v3_8 _ _ _ hW (lv_sub hl [2, 3, 1, 0] rfl) hf
  exact L_11 n (0 : Int32) v3_2 _ _ _ hW (lv_sub hl [2, 3, 1, 0] rfl) hf
def f_X9_lengthOf (n : Nat) (th_0 : OS) (v1_0 : Int32) : Option (Int32) :=
  bnd (f_X9_fine0 n th_0 v1_0 (4 : Int32)) (fun (r_1 : Int32) =>
  bnd (f_X9_fine0 n th_0 v1_0 (3 : Int32)) (fun (r_2 : Int32) =>
  some (r_1 - r_2)))
set_option maxHeartbeats 4000000 in
set_option maxRecDepth 100000 in
theorem c_X9_lengthOf (n : Nat) (l : Launch) (k : KT) (a_th : Nat → Nat) (th_0 : OS) (v1_0 : Int32) (res : (Int32)) (hf : f_X9_lengthOf n th_0 v1_0 = some res) : CG l k yX9_lengthOf cX9_lengthOf 2 (some .int) 2 0 0 42 [.ref (a_th 0), .int v1_0] (wModel k a_th th_0) (Qi k (fun u : Unit => wModel k a_th th_0) (fun (r : Int32) (u : Unit) => res = r)) := by
  refine CG.ofI (by decide) (Nat.le_of_ble_eq_true rfl) (fun p e s m args below meth c A Q E hnm hW hA hret ls hl => ?_)
  have hl : lv_has ls 2 [(0, .ref (a_th 0)), (1, .int v1_0)] := hl
  unfold f_X9_lengthOf at hf
  refine k_aload_n E hl 0 dX9_lengthOf_0 rfl ?_
  refine k_iload_n E hl 1 dX9_lengthOf_1 rfl ?_
  refine lv_iconst (v := (4 : Int32)) E.hx E.hb dX9_lengthOf_2 ic_4 ?_
  obtain ⟨r_1, hg, hf⟩ := ob hf
  refine k_callVi (As := [.int v1_0, .int (4 : Int32)]) (rest := []) (ws2 := fun u => wModel k a_th th_0) (c_X9_fine0 n l k a_th th_0 v1_0 (4 : Int32) r_1 hg) E vl_X9_244 dX9_lengthOf_3 rfl [0, 1, 2, 3, 4, 5, 6, 7, 8, 9, 10, 11, 12] 7 0 hW hA hl rfl rfl rfl rfl ⟨by decide, by decide⟩ ⟨by decide, by decide⟩ (Nat.le_of_ble_eq_true rfl) rfl (fun _ => rfl) (fun _ => rfl) (fun r u H locs hp hW => ?_)
  cases hp
  have hW : WD k A s.heap (wModel k a_th th_0) H locs := hW
  refine k_aload_n E hl 0 dX9_lengthOf_6 rfl ?_
  refine k_iload_n E hl 1 dX9_lengthOf_7 rfl ?_
  refine lv_iconst (v := (3 : Int32)) E.hx E.hb dX9_lengthOf_8 ic_3 ?_
  obtain ⟨r_2, hg, hf⟩ := ob hf
  refine k_callVi (As := [.int v1_0, .int (3 : Int32)]) (rest := [.int r_1]) (ws2 := fun u => wModel k a_th th_0) (c_X9_fine0 n l k a_th th_0 v1_0 (3 : Int32) r_2 hg) E vl_X9_244 dX9_lengthOf_9 rfl [0, 1, 2, 3, 4, 5, 6, 7, 8, 9, 10, 11, 12] 7 0 hW hA hl rfl rfl rfl rfl ⟨by decide, by decide⟩ ⟨by decide, by decide⟩ (Nat.le_of_ble_eq_true rfl) rfl (fun _ => rfl) (fun _ => rfl) (fun r u H locs hp hW => ?_)
  cases hp
  have hW : WD k A s.heap (wModel k a_th th_0) H locs := hW
  refine lv_isub E.hx E.hb dX9_lengthOf_12 ?_
  exact hret _ () _ _ _ _ _ _ hW (Option.some.inj hf).symm rfl (by decide) (by decide) dX9_lengthOf_13
def f_X9_canAppeal (n : Nat) (th_0 : OS) (v1_0 : Int32) : Option (Int32) :=
  bnd (f_X9_fine0 n th_0 v1_0 (6 : Int32)) (fun (r_1 : Int32) =>
  if r_1 = 0 then (
  gI 1846 (0 : Int32) (Let ((th_0.2.1 9) (0 : Int32).toNatClampNeg) (fun x_2 : Int32 =>
  bnd (f_X9_fine0 n th_0 v1_0 (4 : Int32)) (fun (r_3 : Int32) =>
  if (r_3 + (th_0.1 7)) < x_2 then (
  some (0 : Int32)) else (
  some (1 : Int32)))))) else (
  some (0 : Int32)))
set_option maxHeartbeats 4000000 in
set_option maxRecDepth 100000 in
theorem c_X9_canAppeal (n : Nat) (l : Launch) (k : KT) (a_th : Nat → Nat) (th_0 : OS) (v1_0 : Int32) (res : (Int32)) (hf : f_X9_canAppeal n th_0 v1_0 = some res) : CG l k yX9_canAppeal cX9_canAppeal 2 (some .boolean) 2 0 0 42 [.ref (a_th 0), .int v1_0] (wModel k a_th th_0) (Qi k (fun u : Unit => wModel k a_th th_0) (fun (r : Int32) (u : Unit) => res = r)) := by
  refine CG.ofI (by decide) (Nat.le_of_ble_eq_true rfl) (fun p e s m args below meth c A Q E hnm hW hA hret ls hl => ?_)
  have hl : lv_has ls 2 [(0, .ref (a_th 0)), (1, .int v1_0)] := hl
  unfold f_X9_canAppeal at hf
  refine k_aload_n E hl 0 dX9_canAppeal_0 rfl ?_
  refine k_iload_n E hl 1 dX9_canAppeal_1 rfl ?_
  refine lv_bipush (v := (6 : Int32)) E.hx E.hb dX9_canAppeal_2 bp_6 ?_
  obtain ⟨r_1, hg, hf⟩ := ob hf
  refine k_callVi (As := [.int v1_0, .int (6 : Int32)]) (rest := []) (ws2 := fun u => wModel k a_th th_0) (c_X9_fine0 n l k a_th th_0 v1_0 (6 : Int32) r_1 hg) E vl_X9_244 dX9_canAppeal_4 rfl [0, 1, 2, 3, 4, 5, 6, 7, 8, 9, 10, 11, 12] 7 0 hW hA hl rfl rfl rfl rfl ⟨by decide, by decide⟩ ⟨by decide, by decide⟩ (Nat.le_of_ble_eq_true rfl) rfl (fun _ => rfl) (fun _ => rfl) (fun r u H locs hp hW => ?_)
  cases hp
  have hW : WD k A s.heap (wModel k a_th th_0) H locs := hW
  refine lv_if_ne (tgt := 34) E.hx E.hb dX9_canAppeal_7 (by decide) (fun hc => ?_) (fun hc => ?_)
  · have hf := oF hc hf
    refine lv_iconst (v := (0 : Int32)) E.hx E.hb dX9_canAppeal_34 ic_0 ?_
    exact hret _ () _ _ _ _ _ _ hW (Option.some.inj hf).symm (by decide) (by decide) (by decide) dX9_canAppeal_35
  · have hf := oT hc hf
    refine k_aload_n E hl 0 dX9_canAppeal_10 rfl ?_
    refine gf_X9_13 E hW 0 rfl rfl dX9_canAppeal_11 ?_
    refine lv_iconst (v := (0 : Int32)) E.hx E.hb dX9_canAppeal_14 ic_0 ?_
    obtain ⟨hin, hf⟩ := oI hf
    obtain ⟨x_2, ex_2, hf⟩ := oL hf
    refine k_iald E hW 2 rfl hin dX9_canAppeal_15 ?_
    refine k_topi ex_2 ?_
    refine k_aload_n E hl 0 dX9_canAppeal_16 rfl ?_
    refine k_iload_n E hl 1 dX9_canAppeal_17 rfl ?_
    refine lv_iconst (v := (4 : Int32)) E.hx E.hb dX9_canAppeal_18 ic_4 ?_
    obtain ⟨r_3, hg, hf⟩ := ob hf
    refine k_callVi (As := [.int v1_0, .int (4 : Int32)]) (rest := [.int x_2]) (ws2 := fun u => wModel k a_th th_0) (c_X9_fine0 n l k a_th th_0 v1_0 (4 : Int32) r_3 hg) E vl_X9_244 dX9_canAppeal_19 rfl [0, 1, 2, 3, 4, 5, 6, 7, 8, 9, 10, 11, 12] 7 0 hW hA hl rfl rfl rfl rfl ⟨by decide, by decide⟩ ⟨by decide, by decide⟩ (Nat.le_of_ble_eq_true rfl) rfl (fun _ => rfl) (fun _ => rfl) (fun r u H locs hp hW => ?_)
    cases hp
    have hW : WD k A s.heap (wModel k a_th th_0) H locs := hW
    refine k_aload_n E hl 0 dX9_canAppeal_22 rfl ?_
    refine gf_X9_251 E hW 0 rfl rfl dX9_canAppeal_23 ?_
    refine lv_iadd E.hx E.hb dX9_canAppeal_26 ?_
    refine lv_icmp_gt (tgt := 34) E.hx E.hb dX9_canAppeal_27 (by decide) (fun hc => ?_) (fun hc => ?_)
    · have hf := oT hc hf
      refine lv_iconst (v := (0 : Int32)) E.hx E.hb dX9_canAppeal_34 ic_0 ?_
      exact hret _ () _ _ _ _ _ _ hW (Option.some.inj hf).symm (by decide) (by decide) (by decide) dX9_canAppeal_35
    · have hf := oF hc hf
      refine lv_iconst (v := (1 : Int32)) E.hx E.hb dX9_canAppeal_30 ic_1 ?_
      refine lv_goto (tgt := 35) E.hx E.hb dX9_canAppeal_31 (by decide) ?_
      exact hret _ () _ _ _ _ _ _ hW (Option.some.inj hf).symm (by decide) (by decide) (by decide) dX9_canAppeal_35
def f_X9_lessBy (n : Nat) (th_0 : OS) (v1_0 : Int32) : Option (Int32) :=
  bnd (f_X9_fine0 n th_0 v1_0 (5 : Int32)) (fun (r_1 : Int32) =>
  bnd (f_X9_lengthOf n th_0 v1_0) (fun (r_2 : Int32) =>
  bnd (f_X9_evidenceFor n th_0 v1_0) (fun (r_3 : Int32) =>
  bnd (f_X9_lengthOf n th_0 v1_0) (fun (r_4 : Int32) =>
  bnd (f_X9_upwards n (r_1 * (r_2 - r_3)) r_4) (fun (r_5 : Int32) =>
  some (r_1 - r_5))))))
set_option maxHeartbeats 4000000 in
set_option maxRecDepth 100000 in
theorem c_X9_lessBy (n : Nat) (l : Launch) (k : KT) (a_th : Nat → Nat) (th_0 : OS) (v1_0 : Int32) (res : (Int32)) (hf : f_X9_lessBy n th_0 v1_0 = some res) : CG l k yX9_lessBy cX9_lessBy 3 (some .int) 3 0 0 66 [.ref (a_th 0), .int v1_0] (wModel k a_th th_0) (Qi k (fun u : Unit => wModel k a_th th_0) (fun (r : Int32) (u : Unit) => res = r)) := by
  refine CG.ofI (by decide) (Nat.le_of_ble_eq_true rfl) (fun p e s m args below meth c A Q E hnm hW hA hret ls hl => ?_)
  have hl : lv_has ls 3 [(0, .ref (a_th 0)), (1, .int v1_0)] := hl
  unfold f_X9_lessBy at hf
  refine k_aload_n E hl 0 dX9_lessBy_0 rfl ?_
  refine k_iload_n E hl 1 dX9_lessBy_1 rfl ?_
  refine lv_iconst (v := (5 : Int32)) E.hx E.hb dX9_lessBy_2 ic_5 ?_
  obtain ⟨r_1, hg, hf⟩ := ob hf
  refine k_callVi (As := [.int v1_0, .int (5 : Int32)]) (rest := []) (ws2 := fun u => wModel k a_th th_0) (c_X9_fine0 n l k a_th th_0 v1_0 (5 : Int32) r_1 hg) E vl_X9_244 dX9_lessBy_3 rfl [0, 1, 2, 3, 4, 5, 6, 7, 8, 9, 10, 11, 12] 7 0 hW hA hl rfl rfl rfl rfl ⟨by decide, by decide⟩ ⟨by decide, by decide⟩ (Nat.le_of_ble_eq_true rfl) rfl (fun _ => rfl) (fun _ => rfl) (fun r u H locs hp hW => ?_)
  cases hp
  have hW : WD k A s.heap (wModel k a_th th_0) H locs := hW
  refine k_istore_n (lv' := [(2, .int r_1), (0, .ref (a_th 0)), (1, .int v1_0)]) E rfl hl dX9_lessBy_6 rfl (by decide) rfl (fun ls hl => ?_)
  refine k_iload_n E hl 0 dX9_lessBy_7 rfl ?_
  refine k_iload_n E hl 0 dX9_lessBy_8 rfl ?_
  refine k_aload_n E hl 1 dX9_lessBy_9 rfl ?_
  refine k_iload_n E hl 2 dX9_lessBy_10 rfl ?_
  obtain ⟨r_2, hg, hf⟩ := ob hf
  refine k_callVi (As := [.int v1_0]) (rest := [.int r_1, .int r_1]) (ws2 := fun u => wModel k a_th th_0) (c_X9_lengthOf n l k a_th th_0 v1_0 r_2 hg) E vl_X9_254 dX9_lessBy_11 rfl [0, 1, 2, 3, 4, 5, 6, 7, 8, 9, 10, 11, 12] 7 0 hW hA hl rfl rfl rfl rfl ⟨by decide, by decide⟩ ⟨by decide, by decide⟩ (Nat.le_of_ble_eq_true rfl) rfl (fun _ => rfl) (fun _ => rfl) (fun r u H locs hp hW => ?_)
  cases hp
  have hW : WD k A s.heap (wModel k a_th th_0) H locs := hW
  refine k_aload_n E hl 1 dX9_lessBy_14 rfl ?_
  refine k_iload_n E hl 2 dX9_lessBy_15 rfl ?_
  obtain ⟨r_3, hg, hf⟩ := ob hf
  refine k_callVi (As := [.int v1_0]) (rest := [.int r_2, .int r_1, .int r_1]) (ws2 := fun u => wModel k a_th th_0) (c_X9_evidenceFor n l k a_th th_0 v1_0 r_3 hg) E vl_X9_257 dX9_lessBy_16 rfl [0, 1, 2, 3, 4, 5, 6, 7, 8, 9, 10, 11, 12] 7 0 hW hA hl rfl rfl rfl rfl ⟨by decide, by decide⟩ ⟨by decide, by decide⟩ (Nat.le_of_ble_eq_true rfl) rfl (fun _ => rfl) (fun _ => rfl) (fun r u H locs hp hW => ?_)
  cases hp
  have hW : WD k A s.heap (wModel k a_th th_0) H locs := hW
  refine lv_isub E.hx E.hb dX9_lessBy_19 ?_
  refine lv_imul E.hx E.hb dX9_lessBy_20 ?_
  refine k_aload_n E hl 1 dX9_lessBy_21 rfl ?_
  refine k_iload_n E hl 2 dX9_lessBy_22 rfl ?_
  obtain ⟨r_4, hg, hf⟩ := ob hf
  refine k_callVi (As := [.int v1_0]) (rest := [.int (r_1 * (r_2 - r_3)), .int r_1]) (ws2 := fun u => wModel k a_th th_0) (c_X9_lengthOf n l k a_th th_0 v1_0 r_4 hg) E vl_X9_254 dX9_lessBy_23 rfl [0, 1, 2, 3, 4, 5, 6, 7, 8, 9, 10, 11, 12] 7 0 hW hA hl rfl rfl rfl rfl ⟨by decide, by decide⟩ ⟨by decide, by decide⟩ (Nat.le_of_ble_eq_true rfl) rfl (fun _ => rfl) (fun _ => rfl) (fun r u H locs hp hW => ?_)
  cases hp
  have hW : WD k A s.heap (wModel k a_th th_0) H locs := hW
  obtain ⟨r_5, hg, hf⟩ := ob hf
  refine k_callSi (As := [.int (r_1 * (r_2 - r_3)), .int r_4]) (rest := [.int r_1]) (ws2 := fun u => wModel k a_th th_0) (c_X9_upwards n l k (r_1 * (r_2 - r_3)) r_4 r_5 hg) E sl_X9_123 dX9_lessBy_26 rfl [] hW hA hl rfl rfl ⟨by decide, by decide⟩ ⟨by decide, by decide⟩ (Nat.le_of_ble_eq_true rfl) rfl (fun _ => rfl) (fun _ => rfl) (fun r u H locs hp hW => ?_)
  cases hp
  have hW : WD k A s.heap (wModel k a_th th_0) H locs := hW
  refine lv_isub E.hx E.hb dX9_lessBy_29 ?_
  exact hret _ () _ _ _ _ _ _ hW (Option.some.inj hf).symm rfl (by decide) (by decide) dX9_lessBy_30
def f_X9_appeal (n : Nat) (th_0 : OS) (v1_0 : Int32) : Option (OS × Int32) :=
  bnd (f_X9_isKnown n th_0 v1_0) (fun (r_1 : Int32) =>
  bnd2 (f_X9_may n th_0 r_1 (2 : Int32)) (fun (th_2 : OS) (r_3 : Int32) =>
  if r_3 = 0 then (
  some (th_2, (0 : Int32))) else (
  bnd (f_X9_canAppeal n th_2 v1_0) (fun (r_4 : Int32) =>
  bnd2 (f_X9_may n th_2 r_4 (1 : Int32)) (fun (th_5 : OS) (r_6 : Int32) =>
  if r_6 = 0 then (
  some (th_5, (0 : Int32))) else (
  bnd (f_X9_starts n th_5) (fun (th_7 : OS) =>
  bnd (f_X9_fine0 n th_7 v1_0 (0 : Int32)) (fun (r_8 : Int32) =>
  bnd (f_X9_lessBy n th_7 v1_0) (fun (r_9 : Int32) =>
  bnd (f_X9_fine0 n th_7 v1_0 (2 : Int32)) (fun (r_10 : Int32) =>
  bnd (f_X9_evidenceFor n th_7 v1_0) (fun (r_11 : Int32) =>
  bnd (f_X9_lengthOf n th_7 v1_0) (fun (r_12 : Int32) =>
  oN (r_12 = 0) (
  Let ((r_10 * r_11) / r_12) (fun v4_13 : Int32 =>
  bnd (f_X9_fineAt n v1_0) (fun (r_14 : Int32) =>
  bnd (f_X9_fine0 n th_7 v1_0 (5 : Int32)) (fun (r_15 : Int32) =>
  gI 1846 (r_14 + (5 : Int32)) (Let (sA th_7 9 (upd (th_7.2.1 9) (r_14 + (5 : Int32)).toNatClampNeg (r_15 - r_9))) (fun th_16 : OS =>
  bnd (f_X9_fineAt n v1_0) (fun (r_17 : Int32) =>
  gI 1846 (r_17 + (6 : Int32)) (Let (sA th_16 9 (upd (th_16.2.1 9) (r_17 + (6 : Int32)).toNatClampNeg (1 : Int32))) (fun th_18 : OS =>
  bnd (f_X9_process0 n th_18 r_8 (1 : Int32)) (fun (r_19 : Int32) =>
  bnd (f_X9_greater n (0 : Int32) (r_19 - r_9)) (fun (r_20 : Int32) =>
  bnd (f_X9_sets n th_18 r_8 (1 : Int32) r_20) (fun (th_21 : OS) =>
  bnd (f_X9_process0 n th_21 r_8 (0 : Int32)) (fun (r_22 : Int32) =>
  bnd (f_X9_greater n (0 : Int32) (r_22 - v4_13)) (fun (r_23 : Int32) =>
  bnd (f_X9_sets n th_21 r_8 (0 : Int32) r_23) (fun (th_24 : OS) =>
  bnd2 (f_X9_done n th_24 r_9) (fun (th_25 : OS) (r_26 : Int32) =>
  some (th_25, r_26)))))))))))))))))))))))))))))
set_option maxHeartbeats 4000000 in
set_option maxRecDepth 100000 in
theorem c_X9_appeal (n : Nat) (l : Launch) (k : KT) (a_th : Nat → Nat) (th_0 : OS) (v1_0 : Int32) (res : (OS × Int32)) (hf : f_X9_appeal n th_0 v1_0 = some res) : CG l k yX9_appeal cX9_appeal 5 (some .int) 4 0 0 88 [.ref (a_th 0), .int v1_0] (wModel k a_th th_0) (Qi k (fun u : OS => wModel k a_th u) (fun (r : Int32) (u : OS) => res = (u, r))) := by
  refine CG.ofI (by decide) (Nat.le_of_ble_eq_true rfl) (fun p e s m args below meth c A Q E hnm hW hA hret ls hl => ?_)
  have hl : lv_has ls 5 [(0, .ref (a_th 0)), (1, .int v1_0)] := hl
  unfold f_X9_appeal at hf
  refine k_aload_n E hl 0 dX9_appeal_0 rfl ?_
  refine k_aload_n E hl 0 dX9_appeal_1 rfl ?_
  refine k_iload_n E hl 1 dX9_appeal_2 rfl ?_
  obtain ⟨r_1, hg, hf⟩ := ob hf
  refine k_callVi (As := [.int v1_0]) (rest := [.ref (a_th 0)]) (ws2 := fun u => wModel k a_th th_0) (c_X9_isKnown n l k a_th th_0 v1_0 r_1 hg) E vl_X9_260 dX9_appeal_3 rfl [0, 1, 2, 3, 4, 5, 6, 7, 8, 9, 10, 11, 12] 7 0 hW hA hl rfl rfl rfl rfl ⟨by decide, by decide⟩ ⟨by decide, by decide⟩ (Nat.le_of_ble_eq_true rfl) rfl (fun _ => rfl) (fun _ => rfl) (fun r u H locs hp hW => ?_)
  cases hp
  have hW : WD k A s.heap (wModel k a_th th_0) H locs := hW
  refine lv_iconst (v := (2 : Int32)) E.hx E.hb dX9_appeal_6 ic_2 ?_
  obtain ⟨th_2, r_3, hg, hf⟩ := ob2 hf
  refine k_callVi (As := [.int r_1, .int (2 : Int32)]) (rest := []) (ws2 := fun u => wModel k a_th (u)) (c_X9_may n l k a_th th_0 r_1 (2 : Int32) (th_2, r_3) hg) E vl_X9_210 dX9_appeal_7 rfl [0, 1, 2, 3, 4, 5, 6, 7, 8, 9, 10, 11, 12] 7 0 hW hA hl rfl rfl rfl rfl ⟨by decide, by decide⟩ ⟨by decide, by decide⟩ (Nat.le_of_ble_eq_true rfl) rfl (fun _ => rfl) (fun _ => rfl) (fun r u H locs hp hW => ?_)
  cases hp
  have hW : WD k A s.heap (wModel k a_th th_2) H locs := hW
  refine lv_if_eq (tgt := 26) E.hx E.hb dX9_appeal_10 (by decide) (fun hc => ?_) (fun hc => ?_)
  · have hf := oT hc hf
    refine lv_iconst (v := (0 : Int32)) E.hx E.hb dX9_appeal_26 ic_0 ?_
    exact hret _ th_2 _ _ _ _ _ _ hW (Option.some.inj hf).symm rfl (by decide) (by decide) dX9_appeal_27
  · have hf := oF hc hf
    refine k_aload_n E hl 0 dX9_appeal_13 rfl ?_
    refine k_aload_n E hl 0 dX9_appeal_14 rfl ?_
    refine k_iload_n E hl 1 dX9_appeal_15 rfl ?_
    obtain ⟨r_4, hg, hf⟩ := ob hf
    refine k_callVi (As := [.int v1_0]) (rest := [.ref (a_th 0)]) (ws2 := fun u => wModel k a_th th_2) (c_X9_canAppeal n l k a_th th_2 v1_0 r_4 hg) E vl_X9_263 dX9_appeal_16 rfl [0, 1, 2, 3, 4, 5, 6, 7, 8, 9, 10, 11, 12] 7 0 hW hA hl rfl rfl rfl rfl ⟨by decide, by decide⟩ ⟨by decide, by decide⟩ (Nat.le_of_ble_eq_true rfl) rfl (fun _ => rfl) (fun _ => rfl) (fun r u H locs hp hW => ?_)
    cases hp
    have hW : WD k A s.heap (wModel k a_th th_2) H locs := hW
    refine lv_iconst (v := (1 : Int32)) E.hx E.hb dX9_appeal_19 ic_1 ?_
    obtain ⟨th_5, r_6, hg, hf⟩ := ob2 hf
    refine k_callVi (As := [.int r_4, .int (1 : Int32)]) (rest := []) (ws2 := fun u => wModel k a_th (u)) (c_X9_may n l k a_th th_2 r_4 (1 : Int32) (th_5, r_6) hg) E vl_X9_210 dX9_appeal_20 rfl [0, 1, 2, 3, 4, 5, 6, 7, 8, 9, 10, 11, 12] 7 0 hW hA hl rfl rfl rfl rfl ⟨by decide, by decide⟩ ⟨by decide, by decide⟩ (Nat.le_of_ble_eq_true rfl) rfl (fun _ => rfl) (fun _ => rfl) (fun r u H locs hp hW => ?_)
    cases hp
    have hW : WD k A s.heap (wModel k a_th th_5) H locs := hW
    refine lv_if_ne (tgt := 28) E.hx E.hb dX9_appeal_23 (by decide) (fun hc => ?_) (fun hc => ?_)
    · have hf := oF hc hf
      refine k_aload_n E hl 0 dX9_appeal_28 rfl ?_
      obtain ⟨th_7, hg, hf⟩ := ob hf
      refine k_callVv (As := []) (rest := []) (ws2 := fun u => wModel k a_th (u)) (c_X9_starts n l k a_th th_5 th_7 hg) E vl_X9_214 dX9_appeal_29 rfl [0, 1, 2, 3, 4, 5, 6, 7, 8, 9, 10, 11, 12] 7 0 hW hA hl rfl rfl rfl rfl ⟨by decide, by decide⟩ ⟨by decide, by decide⟩ (Nat.le_of_ble_eq_true rfl) rfl (fun _ => rfl) (fun _ => rfl) (fun u H locs hp hW => ?_)
      cases hp
      have hW : WD k A s.heap (wModel k a_th th_7) H locs := hW
      refine k_aload_n E hl 0 dX9_appeal_32 rfl ?_
      refine k_iload_n E hl 1 dX9_appeal_33 rfl ?_
      refine lv_iconst (v := (0 : Int32)) E.hx E.hb dX9_appeal_34 ic_0 ?_
      obtain ⟨r_8, hg, hf⟩ := ob hf
      refine k_callVi (As := [.int v1_0, .int (0 : Int32)]) (rest := []) (ws2 := fun u => wModel k a_th th_7) (c_X9_fine0 n l k a_th th_7 v1_0 (0 : Int32) r_8 hg) E vl_X9_244 dX9_appeal_35 rfl [0, 1, 2, 3, 4, 5, 6, 7, 8, 9, 10, 11, 12] 7 0 hW hA hl rfl rfl rfl rfl ⟨by decide, by decide⟩ ⟨by decide, by decide⟩ (Nat.le_of_ble_eq_true rfl) rfl (fun _ => rfl) (fun _ => rfl) (fun r u H locs hp hW => ?_)
      cases hp
      have hW : WD k A s.heap (wModel k a_th th_7) H locs := hW
      refine k_istore_n (lv' := [(2, .int r_8), (0, .ref (a_th 0)), (1, .int v1_0)]) E rfl hl dX9_appeal_38 rfl (by decide) rfl (fun ls hl => ?_)
      refine k_aload_n E hl 1 dX9_appeal_39 rfl ?_
      refine k_iload_n E hl 2 dX9_appeal_40 rfl ?_
      obtain ⟨r_9, hg, hf⟩ := ob hf
      refine k_callVi (As := [.int v1_0]) (rest := []) (ws2 := fun u => wModel k a_th th_7) (c_X9_lessBy n l k a_th th_7 v1_0 r_9 hg) E vl_X9_266 dX9_appeal_41 rfl [0, 1, 2, 3, 4, 5, 6, 7, 8, 9, 10, 11, 12] 7 0 hW hA hl rfl rfl rfl rfl ⟨by decide, by decide⟩ ⟨by decide, by decide⟩ (Nat.le_of_ble_eq_true rfl) rfl (fun _ => rfl) (fun _ => rfl) (fun r u H locs hp hW => ?_)
      cases hp
      have hW : WD k A s.heap (wModel k a_th th_7) H locs := hW
      refine k_istore_n (lv' := [(3, .int r_9), (2, .int r_8), (0, .ref (a_th 0)), (1, .int v1_0)]) E rfl hl dX9_appeal_44 rfl (by decide) rfl (fun ls hl => ?_)
      refine k_aload_n E hl 2 dX9_appeal_45 rfl ?_
      refine k_iload_n E hl 3 dX9_appeal_46 rfl ?_
      refine lv_iconst (v := (2 : Int32)) E.hx E.hb dX9_appeal_47 ic_2 ?_
      obtain ⟨r_10, hg, hf⟩ := ob hf
      refine k_callVi (As := [.int v1_0, .int (2 : Int32)]) (rest := []) (ws2 := fun u => wModel k a_th th_7) (c_X9_fine0 n l k a_th th_7 v1_0 (2 : Int32) r_10 hg) E vl_X9_244 dX9_appeal_48 rfl [0, 1, 2, 3, 4, 5, 6, 7, 8, 9, 10, 11, 12] 7 0 hW hA hl rfl rfl rfl rfl ⟨by decide, by decide⟩ ⟨by decide, by decide⟩ (Nat.le_of_ble_eq_true rfl) rfl (fun _ => rfl) (fun _ => rfl) (fun r u H locs hp hW => ?_)
      cases hp
      have hW : WD k A s.heap (wModel k a_th th_7) H locs := hW
      refine k_aload_n E hl 2 dX9_appeal_51 rfl ?_
      refine k_iload_n E hl 3 dX9_appeal_52 rfl ?_
      obtain ⟨r_11, hg, hf⟩ := ob hf
      refine k_callVi (As := [.int v1_0]) (rest := [.int r_10]) (ws2 := fun u => wModel k a_th th_7) (c_X9_evidenceFor n l k a_th th_7 v1_0 r_11 hg) E vl_X9_257 dX9_appeal_53 rfl [0, 1, 2, 3, 4, 5, 6, 7, 8, 9, 10, 11, 12] 7 0 hW hA hl rfl rfl rfl rfl ⟨by decide, by decide⟩ ⟨by decide, by decide⟩ (Nat.le_of_ble_eq_true rfl) rfl (fun _ => rfl) (fun _ => rfl) (fun r u H locs hp hW => ?_)
      cases hp
      have hW : WD k A s.heap (wModel k a_th th_7) H locs := hW
      refine lv_imul E.hx E.hb dX9_appeal_56 ?_
      refine k_aload_n E hl 2 dX9_appeal_57 rfl ?_
      refine k_iload_n E hl 3 dX9_appeal_58 rfl ?_
      obtain ⟨r_12, hg, hf⟩ := ob hf
      refine k_callVi (As := [.int v1_0]) (rest := [.int (r_10 * r_11)]) (ws2 := fun u => wModel k a_th th_7) (c_X9_lengthOf n l k a_th th_7 v1_0 r_12 hg) E vl_X9_254 dX9_appeal_59 rfl [0, 1, 2, 3, 4, 5, 6, 7, 8, 9, 10, 11, 12] 7 0 hW hA hl rfl rfl rfl rfl ⟨by decide, by decide⟩ ⟨by decide, by decide⟩ (Nat.le_of_ble_eq_true rfl) rfl (fun _ => rfl) (fun _ => rfl) (fun r u H locs hp hW => ?_)
      cases hp
      have hW : WD k A s.heap (wModel k a_th th_7) H locs := hW
      obtain ⟨hz, hf⟩ := oG hf
      refine lv_idiv E.hx E.hb dX9_appeal_62 hz ?_
      obtain ⟨v4_13, ev4_13, hf⟩ := oL hf
      refine k_istore (lv' := [(4, .int v4_13), (3, .int r_9), (2, .int r_8), (0, .ref (a_th 0)), (1, .int v1_0)]) E ev4_13 hl dX9_appeal_63 (by decide) rfl (fun ls hl => ?_)
      refine k_aload_n E hl 3 dX9_appeal_65 rfl ?_
      refine gf_X9_13 E hW 0 rfl rfl dX9_appeal_66 ?_
      refine k_iload_n E hl 4 dX9_appeal_69 rfl ?_
      obtain ⟨r_14, hg, hf⟩ := ob hf
      refine k_callSi (As := [.int v1_0]) (rest := [.ref (a_th 2)]) (ws2 := fun u => wModel k a_th th_7) (c_X9_fineAt n l k v1_0 r_14 hg) E sl_X9_85 dX9_appeal_70 rfl [] hW hA hl rfl rfl ⟨by decide, by decide⟩ ⟨by decide, by decide⟩ (Nat.le_of_ble_eq_true rfl) rfl (fun _ => rfl) (fun _ => rfl) (fun r u H locs hp hW => ?_)
      cases hp
      have hW : WD k A s.heap (wModel k a_th th_7) H locs := hW
      refine lv_iconst (v := (5 : Int32)) E.hx E.hb dX9_appeal_73 ic_5 ?_
      refine lv_iadd E.hx E.hb dX9_appeal_74 ?_
      refine k_aload_n E hl 3 dX9_appeal_75 rfl ?_
      refine k_iload_n E hl 4 dX9_appeal_76 rfl ?_
      refine lv_iconst (v := (5 : Int32)) E.hx E.hb dX9_appeal_77 ic_5 ?_
      obtain ⟨r_15, hg, hf⟩ := ob hf
      refine k_callVi (As := [.int v1_0, .int (5 : Int32)]) (rest := [.int (r_14 + (5 : Int32)), .ref (a_th 2)]) (ws2 := fun u => wModel k a_th th_7) (c_X9_fine0 n l k a_th th_7 v1_0 (5 : Int32) r_15 hg) E vl_X9_244 dX9_appeal_78 rfl [0, 1, 2, 3, 4, 5, 6, 7, 8, 9, 10, 11, 12] 7 0 hW hA hl rfl rfl rfl rfl ⟨by decide, by decide⟩ ⟨by decide, by decide⟩ (Nat.le_of_ble_eq_true rfl) rfl (fun _ => rfl) (fun _ => rfl) (fun r u H locs hp hW => ?_)
      cases hp
      have hW : WD k A s.heap (wModel k a_th th_7) H locs := hW
      refine k_iload_n E hl 1 dX9_appeal_81 rfl ?_
      refine lv_isub E.hx E.hb dX9_appeal_82 ?_
      obtain ⟨hin, hf⟩ := oI hf
      obtain ⟨th_16, eth_16, hf⟩ := oL hf
      refine k_iast (ws2 := wModel k a_th th_16) E hW 2 rfl hin dX9_appeal_83 (by rw [eth_16]; rfl) (fun H locs hW => ?_)
      refine k_aload_n E hl 3 dX9_appeal_84 rfl ?_
      refine gf_X9_13 E hW 0 rfl rfl dX9_appeal_85 ?_
      refine k_iload_n E hl 4 dX9_appeal_88 rfl ?_
      obtain ⟨r_17, hg, hf⟩ := ob hf
      refine k_callSi (As := [.int v1_0]) (rest := [.ref (a_th 2)]) (ws2 := fun u => wModel k a_th th_16) (c_X9_fineAt n l k v1_0 r_17 hg) E sl_X9_85 dX9_appeal_89 rfl [] hW hA hl rfl rfl ⟨by decide, by decide⟩ ⟨by decide, by decide⟩ (Nat.le_of_ble_eq_true rfl) rfl (fun _ => rfl) (fun _ => rfl) (fun r u H locs hp hW => ?_)
      cases hp
      have hW : WD k A s.heap (wModel k a_th th_16) H locs := hW
      refine lv_bipush (v := (6 : Int32)) E.hx E.hb dX9_appeal_92 bp_6 ?_
      refine lv_iadd E.hx E.hb dX9_appeal_94 ?_
      refine lv_iconst (v := (1 : Int32)) E.hx E.hb dX9_appeal_95 ic_1 ?_
      obtain ⟨hin, hf⟩ := oI hf
      obtain ⟨th_18, eth_18, hf⟩ := oL hf
      refine k_iast (ws2 := wModel k a_th th_18) E hW 2 rfl hin dX9_appeal_96 (by rw [eth_18]; rfl) (fun H locs hW => ?_)
      refine k_aload_n E hl 3 dX9_appeal_97 rfl ?_
      refine k_iload_n E hl 2 dX9_appeal_98 rfl ?_
      refine lv_iconst (v := (1 : Int32)) E.hx E.hb dX9_appeal_99 ic_1 ?_
      refine lv_iconst (v := (0 : Int32)) E.hx E.hb dX9_appeal_100 ic_0 ?_
      refine k_aload_n E hl 3 dX9_appeal_101 rfl ?_
      refine k_iload_n E hl 2 dX9_appeal_102 rfl ?_
      refine lv_iconst (v := (1 : Int32)) E.hx E.hb dX9_appeal_103 ic_1 ?_
      obtain ⟨r_19, hg, hf⟩ := ob hf
      refine k_callVi (As := [.int r_8, .int (1 : Int32)]) (rest := [.int (0 : Int32), .int (1 : Int32), .int r_8, .ref (a_th 0)]) (ws2 := fun u => wModel k a_th th_18) (c_X9_process0 n l k a_th th_18 r_8 (1 : Int32) r_19 hg) E vl_X9_120 dX9_appeal_104 rfl [0, 1, 2, 3, 4, 5, 6, 7, 8, 9, 10, 11, 12] 7 0 hW hA hl rfl rfl rfl rfl ⟨by decide, by decide⟩ ⟨by decide, by decide⟩ (Nat.le_of_ble_eq_true rfl) rfl (fun _ => rfl) (fun _ => rfl) (fun r u H locs hp hW => ?_)
      cases hp
      have hW : WD k A s.heap (wModel k a_th th_18) H locs := hW
      refine k_iload_n E hl 1 dX9_appeal_107 rfl ?_
      refine lv_isub E.hx E.hb dX9_appeal_108 ?_
      obtain ⟨r_20, hg, hf⟩ := ob hf
      refine k_callSi (As := [.int (0 : Int32), .int (r_19 - r_9)]) (rest := [.int (1 : Int32), .int r_8, .ref (a_th 0)]) (ws2 := fun u => wModel k a_th th_18) (c_X9_greater n l k (0 : Int32) (r_19 - r_9) r_20 hg) E sl_X9_96 dX9_appeal_109 rfl [] hW hA hl rfl rfl ⟨by decide, by decide⟩ ⟨by decide, by decide⟩ (Nat.le_of_ble_eq_true rfl) rfl (fun _ => rfl) (fun _ => rfl) (fun r u H locs hp hW => ?_)
      cases hp
      have hW : WD k A s.heap (wModel k a_th th_18) H locs := hW
      obtain ⟨th_21, hg, hf⟩ := ob hf
      refine k_callVv (As := [.int r_8, .int (1 : Int32), .int r_20]) (rest := []) (ws2 := fun u => wModel k a_th (u)) (c_X9_sets n l k a_th th_18 r_8 (1 : Int32) r_20 th_21 hg) E vl_X9_129 dX9_appeal_112 rfl [0, 1, 2, 3, 4, 5, 6, 7, 8, 9, 10, 11, 12] 7 0 hW hA hl rfl rfl rfl rfl ⟨by decide, by decide⟩ ⟨by decide, by decide⟩ (Nat.le_of_ble_eq_true rfl) rfl (fun _ => rfl) (fun _ => rfl) (fun u H locs hp hW => ?_)
      cases hp
      have hW : WD k A s.heap (wModel k a_th th_21) H locs := hW
      refine k_aload_n E hl 3 dX9_appeal_115 rfl ?_
      refine k_iload_n E hl 2 dX9_appeal_116 rfl ?_
      refine lv_iconst (v := (0 : Int32)) E.hx E.hb dX9_appeal_117 ic_0 ?_
      refine lv_iconst (v := (0 : Int32)) E.hx E.hb dX9_appeal_118 ic_0 ?_
      refine k_aload_n E hl 3 dX9_appeal_119 rfl ?_
      refine k_iload_n E hl 2 dX9_appeal_120 rfl ?_
      refine lv_iconst (v := (0 : Int32)) E.hx E.hb dX9_appeal_121 ic_0 ?_
      obtain ⟨r_22, hg, hf⟩ := ob hf
      refine k_callVi (As := [.int r_8, .int (0 : Int32)]) (rest := [.int (0 : Int32), .int (0 : Int32), .int r_8, .ref (a_th 0)]) (ws2 := fun u => wModel k a_th th_21) (c_X9_process0 n l k a_th th_21 r_8 (0 : Int32) r_22 hg) E vl_X9_120 dX9_appeal_122 rfl [0, 1, 2, 3, 4, 5, 6, 7, 8, 9, 10, 11, 12] 7 0 hW hA hl rfl rfl rfl rfl ⟨by decide, by decide⟩ ⟨by decide, by decide⟩ (Nat.le_of_ble_eq_true rfl) rfl (fun _ => rfl) (fun _ => rfl) (fun r u H locs hp hW => ?_)
      cases hp
      have hW : WD k A s.heap (wModel k a_th th_21) H locs := hW
      refine k_iload E hl 0 dX9_appeal_125 rfl ?_
      refine lv_isub E.hx E.hb dX9_appeal_127 ?_
      obtain ⟨r_23, hg, hf⟩ := ob hf
      refine k_callSi (As := [.int (0 : Int32), .int (r_22 - v4_13)]) (rest := [.int (0 : Int32), .int r_8, .ref (a_th 0)]) (ws2 := fun u => wModel k a_th th_21) (c_X9_greater n l k (0 : Int32) (r_22 - v4_13) r_23 hg) E sl_X9_96 dX9_appeal_128 rfl [] hW hA hl rfl rfl ⟨by decide, by decide⟩ ⟨by decide, by decide⟩ (Nat.le_of_ble_eq_true rfl) rfl (fun _ => rfl) (fun _ => rfl) (fun r u H locs hp hW => ?_)
      cases hp
      have hW : WD k A s.heap (wModel k a_th th_21) H locs := hW
      obtain ⟨th_24, hg, hf⟩ := ob hf
      refine k_callVv (As := [.int r_8, .int (0 : Int32), .int r_23]) (rest := []) (ws2 := fun u => wModel k a_th (u)) (c_X9_sets n l k a_th th_21 r_8 (0 : Int32) r_23 th_24 hg) E vl_X9_129 dX9_appeal_131 rfl [0, 1, 2, 3, 4, 5, 6, 7, 8, 9, 10, 11, 12] 7 0 hW hA hl rfl rfl rfl rfl ⟨by decide, by decide⟩ ⟨by decide, by decide⟩ (Nat.le_of_ble_eq_true rfl) rfl (fun _ => rfl) (fun _ => rfl) (fun u H locs hp hW => ?_)
      cases hp
      have hW : WD k A s.heap (wModel k a_th th_24) H locs := hW
      refine k_aload_n E hl 3 dX9_appeal_134 rfl ?_
      refine k_iload_n E hl 1 dX9_appeal_135 rfl ?_
      obtain ⟨th_25, r_26, hg, hf⟩ := ob2 hf
      refine k_callVi (As := [.int r_9]) (rest := []) (ws2 := fun u => wModel k a_th (u)) (c_X9_done n l k a_th th_24 r_9 (th_25, r_26) hg) E vl_X9_220 dX9_appeal_136 rfl [0, 1, 2, 3, 4, 5, 6, 7, 8, 9, 10, 11, 12] 7 0 hW hA hl rfl rfl rfl rfl ⟨by decide, by decide⟩ ⟨by decide, by decide⟩ (Nat.le_of_ble_eq_true rfl) rfl (fun _ => rfl) (fun _ => rfl) (fun r u H locs hp hW => ?_)
      cases hp
      have hW : WD k A s.heap (wModel k a_th th_25) H locs := hW
      exact hret _ th_25 _ _ _ _ _ _ hW (Option.some.inj hf).symm rfl (by decide) (by decide) dX9_appeal_139
    · have hf := oT hc hf
      refine lv_iconst (v := (0 : Int32)) E.hx E.hb dX9_appeal_26 ic_0 ?_
      exact hret _ th_5 _ _ _ _ _ _ hW (Option.some.inj hf).symm rfl (by decide) (by decide) dX9_appeal_27
def f_X9_isOrder (n : Nat) (v0_0 : Int32) : Option (Int32) :=
  bnd (f_X9_isIn n ((v0_0).toInt64) (0 : Int64) (2 : Int64)) (fun (r_1 : Int32) =>
  gZ r_1 (some r_1))
set_option maxHeartbeats 4000000 in
set_option maxRecDepth 100000 in
theorem c_X9_isOrder (n : Nat) (l : Launch) (k : KT)  (v0_0 : Int32) (res : (Int32)) (hf : f_X9_isOrder n v0_0 = some res) : CG l k yX9_isOrder cX9_isOrder 1 (some .boolean) 1 0 0 25 [.int v0_0] ([]) (Qi k (fun u : Unit => []) (fun (r : Int32) (u : Unit) => res = r)) := by
  refine CG.ofI (by decide) (Nat.le_of_ble_eq_true rfl) (fun p e s m args below meth c A Q E hnm hW hA hret ls hl => ?_)
  have hl : lv_has ls 1 [(0, .int v0_0)] := hl
  unfold f_X9_isOrder at hf
  refine k_iload_n E hl 0 dX9_isOrder_0 rfl ?_
  refine lv_i2l (v := (v0_0).toInt64) E.hx E.hb dX9_isOrder_1 rfl ?_
  refine lv_lconst (v := (0 : Int64)) E.hx E.hb dX9_isOrder_2 (by decide) ?_
  refine lv_ldc2 E.hx E.hb E.ho (E.w tm_1675 rfl) dX9_isOrder_3 ?_
  obtain ⟨r_1, hg, hf⟩ := ob hf
  refine k_callSi (As := [.long ((v0_0).toInt64), .long (0 : Int64), .long (2 : Int64)]) (rest := []) (ws2 := fun u => []) (c_X9_isIn n l k ((v0_0).toInt64) (0 : Int64) (2 : Int64) r_1 hg) E sl_X9_92 dX9_isOrder_6 rfl [] hW hA hl rfl rfl ⟨by decide, by decide⟩ ⟨by decide, by decide⟩ (Nat.le_of_ble_eq_true rfl) rfl (fun _ => rfl) (fun _ => rfl) (fun r u H locs hp hW => ?_)
  cases hp
  have hW : WD k A s.heap ([]) H locs := hW
  obtain ⟨hz, hf⟩ := oZ hf
  exact hret _ () _ _ _ _ _ _ hW (Option.some.inj hf).symm hz (by decide) (by decide) dX9_isOrder_9
def f_X9_setOrder (n : Nat) (th_0 : OS) (v1_0 : Int32) : Option (OS × Int32) :=
  bnd (f_X9_isOrder n v1_0) (fun (r_1 : Int32) =>
  bnd2 (f_X9_is n th_0 r_1) (fun (th_2 : OS) (r_3 : Int32) =>
  if r_3 = 0 then (
  some (th_2, (0 : Int32))) else (
  bnd (f_X9_starts n th_2) (fun (th_4 : OS) =>
  gI 1846 (1 : Int32) (Let ((th_4.2.1 9) (1 : Int32).toNatClampNeg) (fun x_5 : Int32 =>
  gI 1846 (1 : Int32) (Let (sA th_4 9 (upd (th_4.2.1 9) (1 : Int32).toNatClampNeg v1_0)) (fun th_6 : OS =>
  bnd2 (f_X9_done n th_6 x_5) (fun (th_7 : OS) (r_8 : Int32) =>
  some (th_7, r_8))))))))))
set_option maxHeartbeats 4000000 in
set_option maxRecDepth 100000 in
theorem c_X9_setOrder (n : Nat) (l : Launch) (k : KT) (a_th : Nat → Nat) (th_0 : OS) (v1_0 : Int32) (res : (OS × Int32)) (hf : f_X9_setOrder n th_0 v1_0 = some res) : CG l k yX9_setOrder cX9_setOrder 3 (some .int) 2 0 0 45 [.ref (a_th 0), .int v1_0] (wModel k a_th th_0) (Qi k (fun u : OS => wModel k a_th u) (fun (r : Int32) (u : OS) => res = (u, r))) := by
  refine CG.ofI (by decide) (Nat.le_of_ble_eq_true rfl) (fun p e s m args below meth c A Q E hnm hW hA hret ls hl => ?_)
  have hl : lv_has ls 3 [(0, .ref (a_th 0)), (1, .int v1_0)] := hl
  unfold f_X9_setOrder at hf
  refine k_aload_n E hl 0 dX9_setOrder_0 rfl ?_
  refine k_iload_n E hl 1 dX9_setOrder_1 rfl ?_
  obtain ⟨r_1, hg, hf⟩ := ob hf
  refine k_callSi (As := [.int v1_0]) (rest := [.ref (a_th 0)]) (ws2 := fun u => wModel k a_th th_0) (c_X9_isOrder n l k v1_0 r_1 hg) E sl_X9_271 dX9_setOrder_2 rfl [] hW hA hl rfl rfl ⟨by decide, by decide⟩ ⟨by decide, by decide⟩ (Nat.le_of_ble_eq_true rfl) rfl (fun _ => rfl) (fun _ => rfl) (fun r u H locs hp hW => ?_)
  cases hp
  have hW : WD k A s.heap (wModel k a_th th_0) H locs := hW
  obtain ⟨th_2, r_3, hg, hf⟩ := ob2 hf
  refine k_callVi (As := [.int r_1]) (rest := []) (ws2 := fun u => wModel k a_th (u)) (c_X9_is n l k a_th th_0 r_1 (th_2, r_3) hg) E vl_X9_77 dX9_setOrder_5 rfl [0, 1, 2, 3, 4, 5, 6, 7, 8, 9, 10, 11, 12] 7 0 hW hA hl rfl rfl rfl rfl ⟨by decide, by decide⟩ ⟨by decide, by decide⟩ (Nat.le_of_ble_eq_true rfl) rfl (fun _ => rfl) (fun _ => rfl) (fun r u H locs hp hW => ?_)
  cases hp
  have hW : WD k A s.heap (wModel k a_th th_2) H locs := hW
  refine lv_if_ne (tgt := 13) E.hx E.hb dX9_setOrder_8 (by decide) (fun hc => ?_) (fun hc => ?_)
  · have hf := oF hc hf
    refine k_aload_n E hl 0 dX9_setOrder_13 rfl ?_
    obtain ⟨th_4, hg, hf⟩ := ob hf
    refine k_callVv (As := []) (rest := []) (ws2 := fun u => wModel k a_th (u)) (c_X9_starts n l k a_th th_2 th_4 hg) E vl_X9_214 dX9_setOrder_14 rfl [0, 1, 2, 3, 4, 5, 6, 7, 8, 9, 10, 11, 12] 7 0 hW hA hl rfl rfl rfl rfl ⟨by decide, by decide⟩ ⟨by decide, by decide⟩ (Nat.le_of_ble_eq_true rfl) rfl (fun _ => rfl) (fun _ => rfl) (fun u H locs hp hW => ?_)
    cases hp
    have hW : WD k A s.heap (wModel k a_th th_4) H locs := hW
    refine k_aload_n E hl 0 dX9_setOrder_17 rfl ?_
    refine gf_X9_13 E hW 0 rfl rfl dX9_setOrder_18 ?_
    refine lv_iconst (v := (1 : Int32)) E.hx E.hb dX9_setOrder_21 ic_1 ?_
    obtain ⟨hin, hf⟩ := oI hf
    obtain ⟨x_5, ex_5, hf⟩ := oL hf
    refine k_iald E hW 2 rfl hin dX9_setOrder_22 ?_
    refine k_topi ex_5 ?_
    refine k_istore_n (lv' := [(2, .int x_5), (0, .ref (a_th 0)), (1, .int v1_0)]) E rfl hl dX9_setOrder_23 rfl (by decide) rfl (fun ls hl => ?_)
    refine k_aload_n E hl 1 dX9_setOrder_24 rfl ?_
    refine gf_X9_13 E hW 0 rfl rfl dX9_setOrder_25 ?_
    refine lv_iconst (v := (1 : Int32)) E.hx E.hb dX9_setOrder_28 ic_1 ?_
    refine k_iload_n E hl 2 dX9_setOrder_29 rfl ?_
    obtain ⟨hin, hf⟩ := oI hf
    obtain ⟨th_6, eth_6, hf⟩ := oL hf
    refine k_iast (ws2 := wModel k a_th th_6) E hW 2 rfl hin dX9_setOrder_30 (by rw [eth_6]; rfl) (fun H locs hW => ?_)
    refine k_aload_n E hl 1 dX9_setOrder_31 rfl ?_
    refine k_iload_n E hl 0 dX9_setOrder_32 rfl ?_
    obtain ⟨th_7, r_8, hg, hf⟩ := ob2 hf
    refine k_callVi (As := [.int x_5]) (rest := []) (ws2 := fun u => wModel k a_th (u)) (c_X9_done n l k a_th th_6 x_5 (th_7, r_8) hg) E vl_X9_220 dX9_setOrder_33 rfl [0, 1, 2, 3, 4, 5, 6, 7, 8, 9, 10, 11, 12] 7 0 hW hA hl rfl rfl rfl rfl ⟨by decide, by decide⟩ ⟨by decide, by decide⟩ (Nat.le_of_ble_eq_true rfl) rfl (fun _ => rfl) (fun _ => rfl) (fun r u H locs hp hW => ?_)
    cases hp
    have hW : WD k A s.heap (wModel k a_th th_7) H locs := hW
    exact hret _ th_7 _ _ _ _ _ _ hW (Option.some.inj hf).symm rfl (by decide) (by decide) dX9_setOrder_36
  · have hf := oT hc hf
    refine lv_iconst (v := (0 : Int32)) E.hx E.hb dX9_setOrder_11 ic_0 ?_
    exact hret _ th_2 _ _ _ _ _ _ hW (Option.some.inj hf).symm rfl (by decide) (by decide) dX9_setOrder_12
def s_X9_openLoans_4 (n : Nat) (th_0 : OS) (w1_j4 : Int32) (rc_4 : (Int32) → (Int32) → Option (Int32)) (w2_j4 : Int32) (w3_j4 : Int32) : Option (Int32) :=
  gI 1846 (6 : Int32) (Let ((th_0.2.1 9) (6 : Int32).toNatClampNeg) (fun x_1 : Int32 =>
  if x_1 ≤ w3_j4 then (
  some w2_j4) else (
  if w1_j4 = 0 then (
  bnd (f_X9_pagesOf n th_0 w3_j4) (fun (r_2 : Int32) =>
  if r_2 ≤ 0 then (
  Let (w3_j4 + (1 : Int32)) (fun v3_3 : Int32 =>
  rc_4 w2_j4 v3_3)) else (
  Let (w2_j4 + (1 : Int32)) (fun v2_4 : Int32 =>
  Let (w3_j4 + (1 : Int32)) (fun v3_5 : Int32 =>
  rc_4 v2_4 v3_5))))) else (
  bnd (f_X9_isBrokenLoan n th_0 w3_j4) (fun (r_6 : Int32) =>
  if r_6 = 0 then (
  Let (w3_j4 + (1 : Int32)) (fun v3_7 : Int32 =>
  rc_4 w2_j4 v3_7)) else (
  Let (w2_j4 + (1 : Int32)) (fun v2_8 : Int32 =>
  Let (w3_j4 + (1 : Int32)) (fun v3_9 : Int32 =>
  rc_4 v2_8 v3_9))))))))
def l_X9_openLoans_4 (n : Nat) (th_0 : OS) (w1_j4 : Int32) : Nat → (Int32) → (Int32) → Option (Int32)
  | 0 => fun _ _ => none
  | N + 1 => s_X9_openLoans_4 n th_0 w1_j4 (l_X9_openLoans_4 n th_0 w1_j4 N)
def f_X9_openLoans (n : Nat) (th_0 : OS) (v1_0 : Int32) : Option (Int32) :=
  l_X9_openLoans_4 n th_0 v1_0 n (0 : Int32) (0 : Int32)
set_option maxHeartbeats 4000000 in
set_option maxRecDepth 100000 in
theorem c_X9_openLoans (n : Nat) (l : Launch) (k : KT) (a_th : Nat → Nat) (th_0 : OS) (v1_0 : Int32) (res : (Int32)) (hf : f_X9_openLoans n th_0 v1_0 = some res) : CG l k yX9_openLoans cX9_openLoans 4 (some .int) 2 0 0 44 [.ref (a_th 0), .int v1_0] (wModel k a_th th_0) (Qi k (fun u : Unit => wModel k a_th th_0) (fun (r : Int32) (u : Unit) => res = r)) := by
  refine CG.ofI (by decide) (Nat.le_of_ble_eq_true rfl) (fun p e s m args below meth c A Q E hnm hW hA hret ls hl => ?_)
  have hl : lv_has ls 4 [(0, .ref (a_th 0)), (1, .int v1_0)] := hl
  unfold f_X9_openLoans at hf
  refine lv_iconst (v := (0 : Int32)) E.hx E.hb dX9_openLoans_0 ic_0 ?_
  refine k_istore_n (lv' := [(2, .int (0 : Int32)), (0, .ref (a_th 0)), (1, .int v1_0)]) E rfl hl dX9_openLoans_1 rfl (by decide) rfl (fun ls hl => ?_)
  refine lv_iconst (v := (0 : Int32)) E.hx E.hb dX9_openLoans_2 ic_0 ?_
  refine k_istore_n (lv' := [(3, .int (0 : Int32)), (2, .int (0 : Int32)), (0, .ref (a_th 0)), (1, .int v1_0)]) E rfl hl dX9_openLoans_3 rfl (by decide) rfl (fun ls hl => ?_)
  have L_4 : ∀ (N_4 : Nat) (w2_j4 : Int32) (w3_j4 : Int32) (H : Heap) (locs : List Loc) (ls : Array Slot) (hW : WD k A s.heap (wModel k a_th th_0) H locs) (hl : lv_has ls 4 [(0, .ref (a_th 0)), (1, .int v1_0), (2, .int w2_j4), (3, .int w3_j4)]) (hf : l_X9_openLoans_4 n th_0 v1_0 N_4 w2_j4 w3_j4 = some res), W p l e { frames := 2, cells := 0, slots := 0, locals := 44 } s m args below meth c H locs 0 0 Q (F0 m 4 ls []) := by
    intro N_4
    induction N_4 with
    | zero => intro w2_j4 w3_j4 H locs ls hW hl hf; exact o0 hf
    | succ N_4 ih_4 =>
      intro w2_j4 w3_j4 H locs ls hW hl hf
      have hf : s_X9_openLoans_4 n th_0 v1_0 (l_X9_openLoans_4 n th_0 v1_0 N_4) w2_j4 w3_j4 = some res := hf
      unfold s_X9_openLoans_4 at hf
      refine k_iload_n E hl 3 dX9_openLoans_4 rfl ?_
      refine k_aload_n E hl 0 dX9_openLoans_5 rfl ?_
      refine gf_X9_13 E hW 0 rfl rfl dX9_openLoans_6 ?_
      refine lv_bipush (v := (6 : Int32)) E.hx E.hb dX9_openLoans_9 bp_6 ?_
      obtain ⟨hin, hf⟩ := oI hf
      obtain ⟨x_1, ex_1, hf⟩ := oL hf
      refine k_iald E hW 2 rfl hin dX9_openLoans_11 ?_
      refine k_topi ex_1 ?_
      refine lv_icmp_ge (tgt := 48) E.hx E.hb dX9_openLoans_12 (by decide) (fun hc => ?_) (fun hc => ?_)
      · have hf := oT hc hf
        refine k_iload_n E hl 2 dX9_openLoans_48 rfl ?_
        exact hret _ () _ _ _ _ _ _ hW (Option.some.inj hf).symm rfl (by decide) (by decide) dX9_openLoans_49
      · have hf := oF hc hf
        refine k_iload_n E hl 1 dX9_openLoans_15 rfl ?_
        refine lv_if_eq (tgt := 30) E.hx E.hb dX9_openLoans_16 (by decide) (fun hc => ?_) (fun hc => ?_)
        · have hf := oT hc hf
          refine k_aload_n E hl 0 dX9_openLoans_30 rfl ?_
          refine k_iload_n E hl 3 dX9_openLoans_31 rfl ?_
          obtain ⟨r_2, hg, hf⟩ := ob hf
          refine k_callVi (As := [.int w3_j4]) (rest := []) (ws2 := fun u => wModel k a_th th_0) (c_X9_pagesOf n l k a_th th_0 w3_j4 r_2 hg) E vl_X9_103 dX9_openLoans_32 rfl [0, 1, 2, 3, 4, 5, 6, 7, 8, 9, 10, 11, 12] 7 0 hW hA hl rfl rfl rfl rfl ⟨by decide, by decide⟩ ⟨by decide, by decide⟩ (Nat.le_of_ble_eq_true rfl) rfl (fun _ => rfl) (fun _ => rfl) (fun r u H locs hp hW => ?_)
          cases hp
          have hW : WD k A s.heap (wModel k a_th th_0) H locs := hW
          refine lv_if_le (tgt := 42) E.hx E.hb dX9_openLoans_35 (by decide) (fun hc => ?_) (fun hc => ?_)
          · have hf := oT hc hf
            obtain ⟨v3_3, ev3_3, hf⟩ := oL hf
            refine k_iinc (lv' := [(3, .int v3_3), (0, .ref (a_th 0)), (1, .int v1_0), (2, .int w2_j4)]) E hl 3 dX9_openLoans_42 rfl (ev3_3.trans (congrArg (fun z => w3_j4 + z) ic_1.symm)) (by decide) rfl (fun ls hl => ?_)
            refine lv_goto (tgt := 4) E.hx E.hb dX9_openLoans_45 (by decide) ?_
            exact ih_4 w2_j4 v3_3 _ _ _ hW (lv_sub hl [1, 2, 3, 0] rfl) hf
          · have hf := oF hc hf
            refine k_iload_n E hl 2 dX9_openLoans_38 rfl ?_
            refine lv_iconst (v := (1 : Int32)) E.hx E.hb dX9_openLoans_39 ic_1 ?_
            refine lv_iadd E.hx E.hb dX9_openLoans_40 ?_
            obtain ⟨v2_4, ev2_4, hf⟩ := oL hf
            refine k_istore_n (lv' := [(2, .int v2_4), (0, .ref (a_th 0)), (1, .int v1_0), (3, .int w3_j4)]) E ev2_4 hl dX9_openLoans_41 rfl (by decide) rfl (fun ls hl => ?_)
            obtain ⟨v3_5, ev3_5, hf⟩ := oL hf
            refine k_iinc (lv' := [(3, .int v3_5), (2, .int v2_4), (0, .ref (a_th 0)), (1, .int v1_0)]) E hl 3 dX9_openLoans_42 rfl (ev3_5.trans (congrArg (fun z => w3_j4 + z) ic_1.symm)) (by decide) rfl (fun ls hl => ?_)
            refine lv_goto (tgt := 4) E.hx E.hb dX9_openLoans_45 (by decide) ?_
            exact ih_4 v2_4 v3_5 _ _ _ hW (lv_sub hl [2, 3, 1, 0] rfl) hf
        · have hf := oF hc hf
          refine k_aload_n E hl 0 dX9_openLoans_19 rfl ?_
          refine k_iload_n E hl 3 dX9_openLoans_20 rfl ?_
          obtain ⟨r_6, hg, hf⟩ := ob hf
          refine k_callVi (As := [.int w3_j4]) (rest := []) (ws2 := fun u => wModel k a_th th_0) (c_X9_isBrokenLoan n l k a_th th_0 w3_j4 r_6 hg) E vl_X9_109 dX9_openLoans_21 rfl [0, 1, 2, 3, 4, 5, 6, 7, 8, 9, 10, 11, 12] 7 0 hW hA hl rfl rfl rfl rfl ⟨by decide, by decide⟩ ⟨by decide, by decide⟩ (Nat.le_of_ble_eq_true rfl) rfl (fun _ => rfl) (fun _ => rfl) (fun r u H locs hp hW => ?_)
          cases hp
          have hW : WD k A s.heap (wModel k a_th th_0) H locs := hW
          refine lv_if_eq (tgt := 42) E.hx E.hb dX9_openLoans_24 (by decide) (fun hc => ?_) (fun hc => ?_)
          · have hf := oT hc hf
            obtain ⟨v3_7, ev3_7, hf⟩ := oL hf
            refine k_iinc (lv' := [(3, .int v3_7), (0, .ref (a_th 0)), (1, .int v1_0), (2, .int w2_j4)]) E hl 3 dX9_openLoans_42 rfl (ev3_7.trans (congrArg (fun z => w3_j4 + z) ic_1.symm)) (by decide) rfl (fun ls hl => ?_)
            refine lv_goto (tgt := 4) E.hx E.hb dX9_openLoans_45 (by decide) ?_
            exact ih_4 w2_j4 v3_7 _ _ _ hW (lv_sub hl [1, 2, 3, 0] rfl) hf
          · have hf := oF hc hf
            refine lv_goto (tgt := 38) E.hx E.hb dX9_openLoans_27 (by decide) ?_
            refine k_iload_n E hl 2 dX9_openLoans_38 rfl ?_
            refine lv_iconst (v := (1 : Int32)) E.hx E.hb dX9_openLoans_39 ic_1 ?_
            refine lv_iadd E.hx E.hb dX9_openLoans_40 ?_
            obtain ⟨v2_8, ev2_8, hf⟩ := oL hf
            refine k_istore_n (lv' := [(2, .int v2_8), (0, .ref (a_th 0)), (1, .int v1_0), (3, .int w3_j4)]) E ev2_8 hl dX9_openLoans_41 rfl (by decide) rfl (fun ls hl => ?_)
            obtain ⟨v3_9, ev3_9, hf⟩ := oL hf
            refine k_iinc (lv' := [(3, .int v3_9), (2, .int v2_8), (0, .ref (a_th 0)), (1, .int v1_0)]) E hl 3 dX9_openLoans_42 rfl (ev3_9.trans (congrArg (fun z => w3_j4 + z) ic_1.symm)) (by decide) rfl (fun ls hl => ?_)
            refine lv_goto (tgt := 4) E.hx E.hb dX9_openLoans_45 (by decide) ?_
            exact ih_4 v2_8 v3_9 _ _ _ hW (lv_sub hl [2, 3, 1, 0] rfl) hf
  exact L_4 n (0 : Int32) (0 : Int32) _ _ _ hW (lv_sub hl [2, 3, 1, 0] rfl) hf
def s_X9_waitingMany_4 (n : Nat) (th_0 : OS) (rc_4 : (Int32) → (Int32) → Option (Int32)) (w1_j4 : Int32) (w2_j4 : Int32) : Option (Int32) :=
  gI 1846 (7 : Int32) (Let ((th_0.2.1 9) (7 : Int32).toNatClampNeg) (fun x_1 : Int32 =>
  if x_1 ≤ w2_j4 then (
  some w1_j4) else (
  bnd (f_X9_doesWait n th_0 w2_j4) (fun (r_2 : Int32) =>
  if r_2 = 0 then (
  Let (w2_j4 + (1 : Int32)) (fun v2_3 : Int32 =>
  rc_4 w1_j4 v2_3)) else (
  Let (w1_j4 + (1 : Int32)) (fun v1_4 : Int32 =>
  Let (w2_j4 + (1 : Int32)) (fun v2_5 : Int32 =>
  rc_4 v1_4 v2_5)))))))
def l_X9_waitingMany_4 (n : Nat) (th_0 : OS) : Nat → (Int32) → (Int32) → Option (Int32)
  | 0 => fun _ _ => none
  | N + 1 => s_X9_waitingMany_4 n th_0 (l_X9_waitingMany_4 n th_0 N)
def f_X9_waitingMany (n : Nat) (th_0 : OS) : Option (Int32) :=
  l_X9_waitingMany_4 n th_0 n (0 : Int32) (0 : Int32)
set_option maxHeartbeats 4000000 in
set_option maxRecDepth 100000 in
theorem c_X9_waitingMany (n : Nat) (l : Launch) (k : KT) (a_th : Nat → Nat) (th_0 : OS) (res : (Int32)) (hf : f_X9_waitingMany n th_0 = some res) : CG l k yX9_waitingMany cX9_waitingMany 3 (some .int) 2 0 0 43 [.ref (a_th 0)] (wModel k a_th th_0) (Qi k (fun u : Unit => wModel k a_th th_0) (fun (r : Int32) (u : Unit) => res = r)) := by
  refine CG.ofI (by decide) (Nat.le_of_ble_eq_true rfl) (fun p e s m args below meth c A Q E hnm hW hA hret ls hl => ?_)
  have hl : lv_has ls 3 [(0, .ref (a_th 0))] := hl
  unfold f_X9_waitingMany at hf
  refine lv_iconst (v := (0 : Int32)) E.hx E.hb dX9_waitingMany_0 ic_0 ?_
  refine k_istore_n (lv' := [(1, .int (0 : Int32)), (0, .ref (a_th 0))]) E rfl hl dX9_waitingMany_1 rfl (by decide) rfl (fun ls hl => ?_)
  refine lv_iconst (v := (0 : Int32)) E.hx E.hb dX9_waitingMany_2 ic_0 ?_
  refine k_istore_n (lv' := [(2, .int (0 : Int32)), (1, .int (0 : Int32)), (0, .ref (a_th 0))]) E rfl hl dX9_waitingMany_3 rfl (by decide) rfl (fun ls hl => ?_)
  have L_4 : ∀ (N_4 : Nat) (w1_j4 : Int32) (w2_j4 : Int32) (H : Heap) (locs : List Loc) (ls : Array Slot) (hW : WD k A s.heap (wModel k a_th th_0) H locs) (hl : lv_has ls 3 [(0, .ref (a_th 0)), (1, .int w1_j4), (2, .int w2_j4)]) (hf : l_X9_waitingMany_4 n th_0 N_4 w1_j4 w2_j4 = some res), W p l e { frames := 2, cells := 0, slots := 0, locals := 43 } s m args below meth c H locs 0 0 Q (F0 m 4 ls []) := by
    intro N_4
    induction N_4 with
    | zero => intro w1_j4 w2_j4 H locs ls hW hl hf; exact o0 hf
    | succ N_4 ih_4 =>
      intro w1_j4 w2_j4 H locs ls hW hl hf
      have hf : s_X9_waitingMany_4 n th_0 (l_X9_waitingMany_4 n th_0 N_4) w1_j4 w2_j4 = some res := hf
      unfold s_X9_waitingMany_4 at hf
      refine k_iload_n E hl 2 dX9_waitingMany_4 rfl ?_
      refine k_aload_n E hl 0 dX9_waitingMany_5 rfl ?_
      refine gf_X9_13 E hW 0 rfl rfl dX9_waitingMany_6 ?_
      refine lv_bipush (v := (7 : Int32)) E.hx E.hb dX9_waitingMany_9 bp_7 ?_
      obtain ⟨hin, hf⟩ := oI hf
      obtain ⟨x_1, ex_1, hf⟩ := oL hf
      refine k_iald E hW 2 rfl hin dX9_waitingMany_11 ?_
      refine k_topi ex_1 ?_
      refine lv_icmp_ge (tgt := 33) E.hx E.hb dX9_waitingMany_12 (by decide) (fun hc => ?_) (fun hc => ?_)
      · have hf := oT hc hf
        refine k_iload_n E hl 1 dX9_waitingMany_33 rfl ?_
        exact hret _ () _ _ _ _ _ _ hW (Option.some.inj hf).symm rfl (by decide) (by decide) dX9_waitingMany_34
      · have hf := oF hc hf
        refine k_aload_n E hl 0 dX9_waitingMany_15 rfl ?_
        refine k_iload_n E hl 2 dX9_waitingMany_16 rfl ?_
        obtain ⟨r_2, hg, hf⟩ := ob hf
        refine k_callVi (As := [.int w2_j4]) (rest := []) (ws2 := fun u => wModel k a_th th_0) (c_X9_doesWait n l k a_th th_0 w2_j4 r_2 hg) E vl_X9_142 dX9_waitingMany_17 rfl [0, 1, 2, 3, 4, 5, 6, 7, 8, 9, 10, 11, 12] 7 0 hW hA hl rfl rfl rfl rfl ⟨by decide, by decide⟩ ⟨by decide, by decide⟩ (Nat.le_of_ble_eq_true rfl) rfl (fun _ => rfl) (fun _ => rfl) (fun r u H locs hp hW => ?_)
        cases hp
        have hW : WD k A s.heap (wModel k a_th th_0) H locs := hW
        refine lv_if_eq (tgt := 27) E.hx E.hb dX9_waitingMany_20 (by decide) (fun hc => ?_) (fun hc => ?_)
        · have hf := oT hc hf
          obtain ⟨v2_3, ev2_3, hf⟩ := oL hf
          refine k_iinc (lv' := [(2, .int v2_3), (0, .ref (a_th 0)), (1, .int w1_j4)]) E hl 2 dX9_waitingMany_27 rfl (ev2_3.trans (congrArg (fun z => w2_j4 + z) ic_1.symm)) (by decide) rfl (fun ls hl => ?_)
          refine lv_goto (tgt := 4) E.hx E.hb dX9_waitingMany_30 (by decide) ?_
          exact ih_4 w1_j4 v2_3 _ _ _ hW (lv_sub hl [1, 2, 0] rfl) hf
        · have hf := oF hc hf
          refine k_iload_n E hl 1 dX9_waitingMany_23 rfl ?_
          refine lv_iconst (v := (1 : Int32)) E.hx E.hb dX9_waitingMany_24 ic_1 ?_
          refine lv_iadd E.hx E.hb dX9_waitingMany_25 ?_
          obtain ⟨v1_4, ev1_4, hf⟩ := oL hf
          refine k_istore_n (lv' := [(1, .int v1_4), (0, .ref (a_th 0)), (2, .int w2_j4)]) E ev1_4 hl dX9_waitingMany_26 rfl (by decide) rfl (fun ls hl => ?_)
          obtain ⟨v2_5, ev2_5, hf⟩ := oL hf
          refine k_iinc (lv' := [(2, .int v2_5), (1, .int v1_4), (0, .ref (a_th 0))]) E hl 2 dX9_waitingMany_27 rfl (ev2_5.trans (congrArg (fun z => w2_j4 + z) ic_1.symm)) (by decide) rfl (fun ls hl => ?_)
          refine lv_goto (tgt := 4) E.hx E.hb dX9_waitingMany_30 (by decide) ?_
          exact ih_4 v1_4 v2_5 _ _ _ hW (lv_sub hl [2, 1, 0] rfl) hf
  exact L_4 n (0 : Int32) (0 : Int32) _ _ _ hW (lv_sub hl [2, 1, 0] rfl) hf
def f_X9_count (n : Nat) (th_0 : OS) (v1_0 : Int32) : Option (OS × Int32) :=
  Let (sI th_0 0 (0 : Int32)) (fun th_1 : OS =>
  if (v1_0).toInt < 0 ∨ 20 < (v1_0).toInt then (
  some (th_1, (-1 : Int32))) else (if v1_0 = (0 : Int32) then (
  some (th_1, (th_1.1 1))) else (if v1_0 = (1 : Int32) then (
  some (th_1, (th_1.1 2))) else (if v1_0 = (2 : Int32) then (
  gI 1846 (0 : Int32) (Let ((th_1.2.1 9) (0 : Int32).toNatClampNeg) (fun x_2 : Int32 =>
  some (th_1, x_2)))) else (if v1_0 = (3 : Int32) then (
  gI 1846 (1 : Int32) (Let ((th_1.2.1 9) (1 : Int32).toNatClampNeg) (fun x_3 : Int32 =>
  some (th_1, x_3)))) else (if v1_0 = (4 : Int32) then (
  some (th_1, (th_1.1 3))) else (if v1_0 = (5 : Int32) then (
  some (th_1, (th_1.1 4))) else (if v1_0 = (6 : Int32) then (
  some (th_1, (th_1.1 5))) else (if v1_0 = (7 : Int32) then (
  some (th_1, (th_1.1 6))) else (if v1_0 = (8 : Int32) then (
  some (th_1, (th_1.1 7))) else (if v1_0 = (9 : Int32) then (
  bnd (f_X9_free n th_1) (fun (r_4 : Int32) =>
  some (th_1, r_4))) else (if v1_0 = (10 : Int32) then (
  gI 1846 (6 : Int32) (Let ((th_1.2.1 9) (6 : Int32).toNatClampNeg) (fun x_5 : Int32 =>
  some (th_1, x_5)))) else (if v1_0 = (11 : Int32) then (
  bnd (f_X9_openLoans n th_1 (0 : Int32)) (fun (r_6 : Int32) =>
  some (th_1, r_6))) else (if v1_0 = (12 : Int32) then (
  bnd (f_X9_openLoans n th_1 (1 : Int32)) (fun (r_7 : Int32) =>
  some (th_1, r_7))) else (if v1_0 = (13 : Int32) then (
  gI 1846 (7 : Int32) (Let ((th_1.2.1 9) (7 : Int32).toNatClampNeg) (fun x_8 : Int32 =>
  some (th_1, x_8)))) else (if v1_0 = (14 : Int32) then (
  bnd (f_X9_waitingMany n th_1) (fun (r_9 : Int32) =>
  some (th_1, r_9))) else (if v1_0 = (15 : Int32) then (
  gI 1846 (8 : Int32) (Let ((th_1.2.1 9) (8 : Int32).toNatClampNeg) (fun x_10 : Int32 =>
  some (th_1, x_10)))) else (if v1_0 = (16 : Int32) then (
  gI 1846 (9 : Int32) (Let ((th_1.2.1 9) (9 : Int32).toNatClampNeg) (fun x_11 : Int32 =>
  some (th_1, x_11)))) else (if v1_0 = (17 : Int32) then (
  gI 1846 (2 : Int32) (Let ((th_1.2.1 9) (2 : Int32).toNatClampNeg) (fun x_12 : Int32 =>
  some (th_1, x_12)))) else (if v1_0 = (18 : Int32) then (
  gI 1846 (4 : Int32) (Let ((th_1.2.1 9) (4 : Int32).toNatClampNeg) (fun x_13 : Int32 =>
  some (th_1, x_13)))) else (if v1_0 = (19 : Int32) then (
  gI 1846 (5 : Int32) (Let ((th_1.2.1 9) (5 : Int32).toNatClampNeg) (fun x_14 : Int32 =>
  some (th_1, x_14)))) else (some (th_1, (th_1.1 15))))))))))))))))))))))))
set_option maxHeartbeats 4000000 in
set_option maxRecDepth 100000 in
theorem c_X9_count (n : Nat) (l : Launch) (k : KT) (a_th : Nat → Nat) (th_0 : OS) (v1_0 : Int32) (res : (OS × Int32)) (hf : f_X9_count n th_0 v1_0 = some res) : CG l k yX9_count cX9_count 2 (some .int) 3 0 0 67 [.ref (a_th 0), .int v1_0] (wModel k a_th th_0) (Qi k (fun u : OS => wModel k a_th u) (fun (r : Int32) (u : OS) => res = (u, r))) := by
  refine CG.ofI (by decide) (Nat.le_of_ble_eq_true rfl) (fun p e s m args below meth c A Q E hnm hW hA hret ls hl => ?_)
  have hl : lv_has ls 2 [(0, .ref (a_th 0)), (1, .int v1_0)] := hl
  unfold f_X9_count at hf
  refine k_aload_n E hl 0 dX9_count_0 rfl ?_
  refine lv_iconst (v := (0 : Int32)) E.hx E.hb dX9_count_1 ic_0 ?_
  obtain ⟨th_1, eth_1, hf⟩ := oL hf
  refine pf_X9_67 (ws2 := wModel k a_th th_1) E hW 0 rfl rfl rfl (Nat.le_of_ble_eq_true rfl) dX9_count_2 (by rw [eth_1]; rfl) (fun H locs hW => ?_)
  refine k_iload_n E hl 1 dX9_count_5 rfl ?_
  by_cases hsw : (v1_0).toInt < 0 ∨ 20 < (v1_0).toInt
  · have hf := oT hsw hf
    refine lv_tableOut (tgt := 233) E.hx E.hb dX9_count_6 hsw (by decide) ?_
    refine lv_iconst (v := (-1 : Int32)) E.hx E.hb dX9_count_233 ic_m1 ?_
    exact hret _ th_1 _ _ _ _ _ _ hW (Option.some.inj hf).symm rfl (by decide) (by decide) dX9_count_234
  · have hf := oF hsw hf
    by_cases hc : v1_0 = (0 : Int32)
    · have hf := oT hc hf
      refine lv_tableIn (off := (98)) (tgt := 104) E.hx E.hb dX9_count_6 (by rw [hc]; decide) (by rw [hc]; decide) (by rw [hc]; rfl) (by decide) ?_
      refine k_aload_n E hl 0 dX9_count_104 rfl ?_
      refine gf_X9_100 E hW 0 rfl rfl dX9_count_105 ?_
      exact hret _ th_1 _ _ _ _ _ _ hW (Option.some.inj hf).symm rfl (by decide) (by decide) dX9_count_108
    have hf := oF hc hf; have hn_0 := hc; clear hc
    by_cases hc : v1_0 = (1 : Int32)
    · have hf := oT hc hf
      refine lv_tableIn (off := (103)) (tgt := 109) E.hx E.hb dX9_count_6 (by rw [hc]; decide) (by rw [hc]; decide) (by rw [hc]; rfl) (by decide) ?_
      refine k_aload_n E hl 0 dX9_count_109 rfl ?_
      refine gf_X9_89 E hW 0 rfl rfl dX9_count_110 ?_
      exact hret _ th_1 _ _ _ _ _ _ hW (Option.some.inj hf).symm rfl (by decide) (by decide) dX9_count_113
    have hf := oF hc hf; have hn_1 := hc; clear hc
    by_cases hc : v1_0 = (2 : Int32)
    · have hf := oT hc hf
      refine lv_tableIn (off := (108)) (tgt := 114) E.hx E.hb dX9_count_6 (by rw [hc]; decide) (by rw [hc]; decide) (by rw [hc]; rfl) (by decide) ?_
      refine k_aload_n E hl 0 dX9_count_114 rfl ?_
      refine gf_X9_13 E hW 0 rfl rfl dX9_count_115 ?_
      refine lv_iconst (v := (0 : Int32)) E.hx E.hb dX9_count_118 ic_0 ?_
      obtain ⟨hin, hf⟩ := oI hf
      obtain ⟨x_2, ex_2, hf⟩ := oL hf
      refine k_iald E hW 2 rfl hin dX9_count_119 ?_
      refine k_topi ex_2 ?_
      exact hret _ th_1 _ _ _ _ _ _ hW (Option.some.inj hf).symm rfl (by decide) (by decide) dX9_count_120
    have hf := oF hc hf; have hn_2 := hc; clear hc
    by_cases hc : v1_0 = (3 : Int32)
    · have hf := oT hc hf
      refine lv_tableIn (off := (115)) (tgt := 121) E.hx E.hb dX9_count_6 (by rw [hc]; decide) (by rw [hc]; decide) (by rw [hc]; rfl) (by decide) ?_
      refine k_aload_n E hl 0 dX9_count_121 rfl ?_
      refine gf_X9_13 E hW 0 rfl rfl dX9_count_122 ?_
      refine lv_iconst (v := (1 : Int32)) E.hx E.hb dX9_count_125 ic_1 ?_
      obtain ⟨hin, hf⟩ := oI hf
      obtain ⟨x_3, ex_3, hf⟩ := oL hf
      refine k_iald E hW 2 rfl hin dX9_count_126 ?_
      refine k_topi ex_3 ?_
      exact hret _ th_1 _ _ _ _ _ _ hW (Option.some.inj hf).symm rfl (by decide) (by decide) dX9_count_127
    have hf := oF hc hf; have hn_3 := hc; clear hc
    by_cases hc : v1_0 = (4 : Int32)
    · have hf := oT hc hf
      refine lv_tableIn (off := (122)) (tgt := 128) E.hx E.hb dX9_count_6 (by rw [hc]; decide) (by rw [hc]; decide) (by rw [hc]; rfl) (by decide) ?_
      refine k_aload_n E hl 0 dX9_count_128 rfl ?_
      refine gf_X9_193 E hW 0 rfl rfl dX9_count_129 ?_
      exact hret _ th_1 _ _ _ _ _ _ hW (Option.some.inj hf).symm rfl (by decide) (by decide) dX9_count_132
    have hf := oF hc hf; have hn_4 := hc; clear hc
    by_cases hc : v1_0 = (5 : Int32)
    · have hf := oT hc hf
      refine lv_tableIn (off := (127)) (tgt := 133) E.hx E.hb dX9_count_6 (by rw [hc]; decide) (by rw [hc]; decide) (by rw [hc]; rfl) (by decide) ?_
      refine k_aload_n E hl 0 dX9_count_133 rfl ?_
      refine gf_X9_117 E hW 0 rfl rfl dX9_count_134 ?_
      exact hret _ th_1 _ _ _ _ _ _ hW (Option.some.inj hf).symm rfl (by decide) (by decide) dX9_count_137
    have hf := oF hc hf; have hn_5 := hc; clear hc
    by_cases hc : v1_0 = (6 : Int32)
    · have hf := oT hc hf
      refine lv_tableIn (off := (132)) (tgt := 138) E.hx E.hb dX9_count_6 (by rw [hc]; decide) (by rw [hc]; decide) (by rw [hc]; rfl) (by decide) ?_
      refine k_aload_n E hl 0 dX9_count_138 rfl ?_
      refine gf_X9_190 E hW 0 rfl rfl dX9_count_139 ?_
      exact hret _ th_1 _ _ _ _ _ _ hW (Option.some.inj hf).symm rfl (by decide) (by decide) dX9_count_142
    have hf := oF hc hf; have hn_6 := hc; clear hc
    by_cases hc : v1_0 = (7 : Int32)
    · have hf := oT hc hf
      refine lv_tableIn (off := (137)) (tgt := 143) E.hx E.hb dX9_count_6 (by rw [hc]; decide) (by rw [hc]; decide) (by rw [hc]; rfl) (by decide) ?_
      refine k_aload_n E hl 0 dX9_count_143 rfl ?_
      refine gf_X9_148 E hW 0 rfl rfl dX9_count_144 ?_
      exact hret _ th_1 _ _ _ _ _ _ hW (Option.some.inj hf).symm rfl (by decide) (by decide) dX9_count_147
    have hf := oF hc hf; have hn_7 := hc; clear hc
    by_cases hc : v1_0 = (8 : Int32)
    · have hf := oT hc hf
      refine lv_tableIn (off := (142)) (tgt := 148) E.hx E.hb dX9_count_6 (by rw [hc]; decide) (by rw [hc]; decide) (by rw [hc]; rfl) (by decide) ?_
      refine k_aload_n E hl 0 dX9_count_148 rfl ?_
      refine gf_X9_251 E hW 0 rfl rfl dX9_count_149 ?_
      exact hret _ th_1 _ _ _ _ _ _ hW (Option.some.inj hf).symm rfl (by decide) (by decide) dX9_count_152
    have hf := oF hc hf; have hn_8 := hc; clear hc
    by_cases hc : v1_0 = (9 : Int32)
    · have hf := oT hc hf
      refine lv_tableIn (off := (147)) (tgt := 153) E.hx E.hb dX9_count_6 (by rw [hc]; decide) (by rw [hc]; decide) (by rw [hc]; rfl) (by decide) ?_
      refine k_aload_n E hl 0 dX9_count_153 rfl ?_
      obtain ⟨r_4, hg, hf⟩ := ob hf
      refine k_callVi (As := []) (rest := []) (ws2 := fun u => wModel k a_th th_1) (c_X9_free n l k a_th th_1 r_4 hg) E vl_X9_166 dX9_count_154 rfl [0, 1, 2, 3, 4, 5, 6, 7, 8, 9, 10, 11, 12] 7 0 hW hA hl rfl rfl rfl rfl ⟨by decide, by decide⟩ ⟨by decide, by decide⟩ (Nat.le_of_ble_eq_true rfl) rfl (fun _ => rfl) (fun _ => rfl) (fun r u H locs hp hW => ?_)
      cases hp
      have hW : WD k A s.heap (wModel k a_th th_1) H locs := hW
      exact hret _ th_1 _ _ _ _ _ _ hW (Option.some.inj hf).symm rfl (by decide) (by decide) dX9_count_157
    have hf := oF hc hf; have hn_9 := hc; clear hc
    by_cases hc : v1_0 = (10 : Int32)
    · have hf := oT hc hf
      refine lv_tableIn (off := (152)) (tgt := 158) E.hx E.hb dX9_count_6 (by rw [hc]; decide) (by rw [hc]; decide) (by rw [hc]; rfl) (by decide) ?_
      refine k_aload_n E hl 0 dX9_count_158 rfl ?_
      refine gf_X9_13 E hW 0 rfl rfl dX9_count_159 ?_
      refine lv_bipush (v := (6 : Int32)) E.hx E.hb dX9_count_162 bp_6 ?_
      obtain ⟨hin, hf⟩ := oI hf
      obtain ⟨x_5, ex_5, hf⟩ := oL hf
      refine k_iald E hW 2 rfl hin dX9_count_164 ?_
      refine k_topi ex_5 ?_
      exact hret _ th_1 _ _ _ _ _ _ hW (Option.some.inj hf).symm rfl (by decide) (by decide) dX9_count_165
    have hf := oF hc hf; have hn_10 := hc; clear hc
    by_cases hc : v1_0 = (11 : Int32)
    · have hf := oT hc hf
      refine lv_tableIn (off := (160)) (tgt := 166) E.hx E.hb dX9_count_6 (by rw [hc]; decide) (by rw [hc]; decide) (by rw [hc]; rfl) (by decide) ?_
      refine k_aload_n E hl 0 dX9_count_166 rfl ?_
      refine lv_iconst (v := (0 : Int32)) E.hx E.hb dX9_count_167 ic_0 ?_
      obtain ⟨r_6, hg, hf⟩ := ob hf
      refine k_callVi (As := [.int (0 : Int32)]) (rest := []) (ws2 := fun u => wModel k a_th th_1) (c_X9_openLoans n l k a_th th_1 (0 : Int32) r_6 hg) E vl_X9_274 dX9_count_168 rfl [0, 1, 2, 3, 4, 5, 6, 7, 8, 9, 10, 11, 12] 7 0 hW hA hl rfl rfl rfl rfl ⟨by decide, by decide⟩ ⟨by decide, by decide⟩ (Nat.le_of_ble_eq_true rfl) rfl (fun _ => rfl) (fun _ => rfl) (fun r u H locs hp hW => ?_)
      cases hp
      have hW : WD k A s.heap (wModel k a_th th_1) H locs := hW
      exact hret _ th_1 _ _ _ _ _ _ hW (Option.some.inj hf).symm rfl (by decide) (by decide) dX9_count_171
    have hf := oF hc hf; have hn_11 := hc; clear hc
    by_cases hc : v1_0 = (12 : Int32)
    · have hf := oT hc hf
      refine lv_tableIn (off := (166)) (tgt := 172) E.hx E.hb dX9_count_6 (by rw [hc]; decide) (by rw [hc]; decide) (by rw [hc]; rfl) (by decide) ?_
      refine k_aload_n E hl 0 dX9_count_172 rfl ?_
      refine lv_iconst (v := (1 : Int32)) E.hx E.hb dX9_count_173 ic_1 ?_
      obtain ⟨r_7, hg, hf⟩ := ob hf
      refine k_callVi (As := [.int (1 : Int32)]) (rest := []) (ws2 := fun u => wModel k a_th th_1) (c_X9_openLoans n l k a_th th_1 (1 : Int32) r_7 hg) E vl_X9_274 dX9_count_174 rfl [0, 1, 2, 3, 4, 5, 6, 7, 8, 9, 10, 11, 12] 7 0 hW hA hl rfl rfl rfl rfl ⟨by decide, by decide⟩ ⟨by decide, by decide⟩ (Nat.le_of_ble_eq_true rfl) rfl (fun _ => rfl) (fun _ => rfl) (fun r u H locs hp hW => ?_)
      cases hp
      have hW : WD k A s.heap (wModel k a_th th_1) H locs := hW
      exact hret _ th_1 _ _ _ _ _ _ hW (Option.some.inj hf).symm rfl (by decide) (by decide) dX9_count_177
    have hf := oF hc hf; have hn_12 := hc; clear hc
    by_cases hc : v1_0 = (13 : Int32)
    · have hf := oT hc hf
      refine lv_tableIn (off := (172)) (tgt := 178) E.hx E.hb dX9_count_6 (by rw [hc]; decide) (by rw [hc]; decide) (by rw [hc]; rfl) (by decide) ?_
      refine k_aload_n E hl 0 dX9_count_178 rfl ?_
      refine gf_X9_13 E hW 0 rfl rfl dX9_count_179 ?_
      refine lv_bipush (v := (7 : Int32)) E.hx E.hb dX9_count_182 bp_7 ?_
      obtain ⟨hin, hf⟩ := oI hf
      obtain ⟨x_8, ex_8, hf⟩ := oL hf
      refine k_iald E hW 2 rfl hin dX9_count_184 ?_
      refine k_topi ex_8 ?_
      exact hret _ th_1 _ _ _ _ _ _ hW (Option.some.inj hf).symm rfl (by decide) (by decide) dX9_count_185
    have hf := oF hc hf; have hn_13 := hc; clear hc
    by_cases hc : v1_0 = (14 : Int32)
    · have hf := oT hc hf
      refine lv_tableIn (off := (180)) (tgt := 186) E.hx E.hb dX9_count_6 (by rw [hc]; decide) (by rw [hc]; decide) (by rw [hc]; rfl) (by decide) ?_
      refine k_aload_n E hl 0 dX9_count_186 rfl ?_
      obtain ⟨r_9, hg, hf⟩ := ob hf
      refine k_callVi (As := []) (rest := []) (ws2 := fun u => wModel k a_th th_1) (c_X9_waitingMany n l k a_th th_1 r_9 hg) E vl_X9_278 dX9_count_187 rfl [0, 1, 2, 3, 4, 5, 6, 7, 8, 9, 10, 11, 12] 7 0 hW hA hl rfl rfl rfl rfl ⟨by decide, by decide⟩ ⟨by decide, by decide⟩ (Nat.le_of_ble_eq_true rfl) rfl (fun _ => rfl) (fun _ => rfl) (fun r u H locs hp hW => ?_)
      cases hp
      have hW : WD k A s.heap (wModel k a_th th_1) H locs := hW
      exact hret _ th_1 _ _ _ _ _ _ hW (Option.some.inj hf).symm rfl (by decide) (by decide) dX9_count_190
    have hf := oF hc hf; have hn_14 := hc; clear hc
    by_cases hc : v1_0 = (15 : Int32)
    · have hf := oT hc hf
      refine lv_tableIn (off := (185)) (tgt := 191) E.hx E.hb dX9_count_6 (by rw [hc]; decide) (by rw [hc]; decide) (by rw [hc]; rfl) (by decide) ?_
      refine k_aload_n E hl 0 dX9_count_191 rfl ?_
      refine gf_X9_13 E hW 0 rfl rfl dX9_count_192 ?_
      refine lv_bipush (v := (8 : Int32)) E.hx E.hb dX9_count_195 bp_8 ?_
      obtain ⟨hin, hf⟩ := oI hf
      obtain ⟨x_10, ex_10, hf⟩ := oL hf
      refine k_iald E hW 2 rfl hin dX9_count_197 ?_
      refine k_topi ex_10 ?_
      exact hret _ th_1 _ _ _ _ _ _ hW (Option.some.inj hf).symm rfl (by decide) (by decide) dX9_count_198
    have hf := oF hc hf; have hn_15 := hc; clear hc
    by_cases hc : v1_0 = (16 : Int32)
    · have hf := oT hc hf
      refine lv_tableIn (off := (193)) (tgt := 199) E.hx E.hb dX9_count_6 (by rw [hc]; decide) (by rw [hc]; decide) (by rw [hc]; rfl) (by decide) ?_
      refine k_aload_n E hl 0 dX9_count_199 rfl ?_
      refine gf_X9_13 E hW 0 rfl rfl dX9_count_200 ?_
      refine lv_bipush (v := (9 : Int32)) E.hx E.hb dX9_count_203 bp_9 ?_
      obtain ⟨hin, hf⟩ := oI hf
      obtain ⟨x_11, ex_11, hf⟩ := oL hf
      refine k_iald E hW 2 rfl hin dX9_count_205 ?_
      refine k_topi ex_11 ?_
      exact hret _ th_1 _ _ _ _ _ _ hW (Option.some.inj hf).symm rfl (by decide) (by decide) dX9_count_206
    have hf := oF hc hf; have hn_16 := hc; clear hc
    by_cases hc : v1_0 = (17 : Int32)
    · have hf := oT hc hf
      refine lv_tableIn (off := (201)) (tgt := 207) E.hx E.hb dX9_count_6 (by rw [hc]; decide) (by rw [hc]; decide) (by rw [hc]; rfl) (by decide) ?_
      refine k_aload_n E hl 0 dX9_count_207 rfl ?_
      refine gf_X9_13 E hW 0 rfl rfl dX9_count_208 ?_
      refine lv_iconst (v := (2 : Int32)) E.hx E.hb dX9_count_211 ic_2 ?_
      obtain ⟨hin, hf⟩ := oI hf
      obtain ⟨x_12, ex_12, hf⟩ := oL hf
      refine k_iald E hW 2 rfl hin dX9_count_212 ?_
      refine k_topi ex_12 ?_
      exact hret _ th_1 _ _ _ _ _ _ hW (Option.some.inj hf).symm rfl (by decide) (by decide) dX9_count_213
    have hf := oF hc hf; have hn_17 := hc; clear hc
    by_cases hc : v1_0 = (18 : Int32)
    · have hf := oT hc hf
      refine lv_tableIn (off := (208)) (tgt := 214) E.hx E.hb dX9_count_6 (by rw [hc]; decide) (by rw [hc]; decide) (by rw [hc]; rfl) (by decide) ?_
      refine k_aload_n E hl 0 dX9_count_214 rfl ?_
      refine gf_X9_13 E hW 0 rfl rfl dX9_count_215 ?_
      refine lv_iconst (v := (4 : Int32)) E.hx E.hb dX9_count_218 ic_4 ?_
      obtain ⟨hin, hf⟩ := oI hf
      obtain ⟨x_13, ex_13, hf⟩ := oL hf
      refine k_iald E hW 2 rfl hin dX9_count_219 ?_
      refine k_topi ex_13 ?_
      exact hret _ th_1 _ _ _ _ _ _ hW (Option.some.inj hf).symm rfl (by decide) (by decide) dX9_count_220
    have hf := oF hc hf; have hn_18 := hc; clear hc
    by_cases hc : v1_0 = (19 : Int32)
    · have hf := oT hc hf
      refine lv_tableIn (off := (215)) (tgt := 221) E.hx E.hb dX9_count_6 (by rw [hc]; decide) (by rw [hc]; decide) (by rw [hc]; rfl) (by decide) ?_
      refine k_aload_n E hl 0 dX9_count_221 rfl ?_
      refine gf_X9_13 E hW 0 rfl rfl dX9_count_222 ?_
      refine lv_iconst (v := (5 : Int32)) E.hx E.hb dX9_count_225 ic_5 ?_
      obtain ⟨hin, hf⟩ := oI hf
      obtain ⟨x_14, ex_14, hf⟩ := oL hf
      refine k_iald E hW 2 rfl hin dX9_count_226 ?_
      refine k_topi ex_14 ?_
      exact hret _ th_1 _ _ _ _ _ _ hW (Option.some.inj hf).symm rfl (by decide) (by decide) dX9_count_227
    have hf := oF hc hf; have hn_19 := hc; clear hc
    have hc : v1_0 = (20 : Int32) := by
      apply Int32.toInt_inj.mp; rw [show ((20 : Int32)).toInt = 20 from by decide]
      have hn_0 : ¬ (v1_0).toInt = 0 := fun z => hn_0 (Int32.toInt_inj.mp (z.trans (show (0 : Int) = ((0 : Int32)).toInt from by decide)))
      have hn_1 : ¬ (v1_0).toInt = 1 := fun z => hn_1 (Int32.toInt_inj.mp (z.trans (show (1 : Int) = ((1 : Int32)).toInt from by decide)))
      have hn_2 : ¬ (v1_0).toInt = 2 := fun z => hn_2 (Int32.toInt_inj.mp (z.trans (show (2 : Int) = ((2 : Int32)).toInt from by decide)))
      have hn_3 : ¬ (v1_0).toInt = 3 := fun z => hn_3 (Int32.toInt_inj.mp (z.trans (show (3 : Int) = ((3 : Int32)).toInt from by decide)))
      have hn_4 : ¬ (v1_0).toInt = 4 := fun z => hn_4 (Int32.toInt_inj.mp (z.trans (show (4 : Int) = ((4 : Int32)).toInt from by decide)))
      have hn_5 : ¬ (v1_0).toInt = 5 := fun z => hn_5 (Int32.toInt_inj.mp (z.trans (show (5 : Int) = ((5 : Int32)).toInt from by decide)))
      have hn_6 : ¬ (v1_0).toInt = 6 := fun z => hn_6 (Int32.toInt_inj.mp (z.trans (show (6 : Int) = ((6 : Int32)).toInt from by decide)))
      have hn_7 : ¬ (v1_0).toInt = 7 := fun z => hn_7 (Int32.toInt_inj.mp (z.trans (show (7 : Int) = ((7 : Int32)).toInt from by decide)))
      have hn_8 : ¬ (v1_0).toInt = 8 := fun z => hn_8 (Int32.toInt_inj.mp (z.trans (show (8 : Int) = ((8 : Int32)).toInt from by decide)))
      have hn_9 : ¬ (v1_0).toInt = 9 := fun z => hn_9 (Int32.toInt_inj.mp (z.trans (show (9 : Int) = ((9 : Int32)).toInt from by decide)))
      have hn_10 : ¬ (v1_0).toInt = 10 := fun z => hn_10 (Int32.toInt_inj.mp (z.trans (show (10 : Int) = ((10 : Int32)).toInt from by decide)))
      have hn_11 : ¬ (v1_0).toInt = 11 := fun z => hn_11 (Int32.toInt_inj.mp (z.trans (show (11 : Int) = ((11 : Int32)).toInt from by decide)))
      have hn_12 : ¬ (v1_0).toInt = 12 := fun z => hn_12 (Int32.toInt_inj.mp (z.trans (show (12 : Int) = ((12 : Int32)).toInt from by decide)))
      have hn_13 : ¬ (v1_0).toInt = 13 := fun z => hn_13 (Int32.toInt_inj.mp (z.trans (show (13 : Int) = ((13 : Int32)).toInt from by decide)))
      have hn_14 : ¬ (v1_0).toInt = 14 := fun z => hn_14 (Int32.toInt_inj.mp (z.trans (show (14 : Int) = ((14 : Int32)).toInt from by decide)))
      have hn_15 : ¬ (v1_0).toInt = 15 := fun z => hn_15 (Int32.toInt_inj.mp (z.trans (show (15 : Int) = ((15 : Int32)).toInt from by decide)))
      have hn_16 : ¬ (v1_0).toInt = 16 := fun z => hn_16 (Int32.toInt_inj.mp (z.trans (show (16 : Int) = ((16 : Int32)).toInt from by decide)))
      have hn_17 : ¬ (v1_0).toInt = 17 := fun z => hn_17 (Int32.toInt_inj.mp (z.trans (show (17 : Int) = ((17 : Int32)).toInt from by decide)))
      have hn_18 : ¬ (v1_0).toInt = 18 := fun z => hn_18 (Int32.toInt_inj.mp (z.trans (show (18 : Int) = ((18 : Int32)).toInt from by decide)))
      have hn_19 : ¬ (v1_0).toInt = 19 := fun z => hn_19 (Int32.toInt_inj.mp (z.trans (show (19 : Int) = ((19 : Int32)).toInt from by decide)))
      omega
    refine lv_tableIn (off := (222)) (tgt := 228) E.hx E.hb dX9_count_6 (by rw [hc]; decide) (by rw [hc]; decide) (by rw [hc]; rfl) (by decide) ?_
    refine k_aload_n E hl 0 dX9_count_228 rfl ?_
    refine gf_X9_74 E hW 0 rfl rfl dX9_count_229 ?_
    exact hret _ th_1 _ _ _ _ _ _ hW (Option.some.inj hf).symm rfl (by decide) (by decide) dX9_count_232
def s_X9_pagesOfAll_4 (n : Nat) (th_0 : OS) (w1_j4 : Int32) (rc_4 : (Int32) → (Int32) → Option (Int32)) (w2_j4 : Int32) (w3_j4 : Int32) : Option (Int32) :=
  gI 1846 (6 : Int32) (Let ((th_0.2.1 9) (6 : Int32).toNatClampNeg) (fun x_1 : Int32 =>
  if x_1 ≤ w3_j4 then (
  some w2_j4) else (
  bnd (f_X9_loan0 n th_0 w3_j4 (0 : Int32)) (fun (r_2 : Int32) =>
  if r_2 = w1_j4 then (
  bnd (f_X9_pagesOf n th_0 w3_j4) (fun (r_4 : Int32) =>
  Let (w2_j4 + r_4) (fun v2_5 : Int32 =>
  Let (w3_j4 + (1 : Int32)) (fun v3_6 : Int32 =>
  rc_4 v2_5 v3_6)))) else (
  Let (w3_j4 + (1 : Int32)) (fun v3_3 : Int32 =>
  rc_4 w2_j4 v3_3))))))
def l_X9_pagesOfAll_4 (n : Nat) (th_0 : OS) (w1_j4 : Int32) : Nat → (Int32) → (Int32) → Option (Int32)
  | 0 => fun _ _ => none
  | N + 1 => s_X9_pagesOfAll_4 n th_0 w1_j4 (l_X9_pagesOfAll_4 n th_0 w1_j4 N)
def f_X9_pagesOfAll (n : Nat) (th_0 : OS) (v1_0 : Int32) : Option (Int32) :=
  l_X9_pagesOfAll_4 n th_0 v1_0 n (0 : Int32) (0 : Int32)
set_option maxHeartbeats 4000000 in
set_option maxRecDepth 100000 in
theorem c_X9_pagesOfAll (n : Nat) (l : Launch) (k : KT) (a_th : Nat → Nat) (th_0 : OS) (v1_0 : Int32) (res : (Int32)) (hf : f_X9_pagesOfAll n th_0 v1_0 = some res) : CG l k yX9_pagesOfAll cX9_pagesOfAll 4 (some .int) 1 0 0 23 [.ref (a_th 0), .int v1_0] (wModel k a_th th_0) (Qi k (fun u : Unit => wModel k a_th th_0) (fun (r : Int32) (u : Unit) => res = r)) := by
  refine CG.ofI (by decide) (Nat.le_of_ble_eq_true rfl) (fun p e s m args below meth c A Q E hnm hW hA hret ls hl => ?_)
  have hl : lv_has ls 4 [(0, .ref (a_th 0)), (1, .int v1_0)] := hl
  unfold f_X9_pagesOfAll at hf
  refine lv_iconst (v := (0 : Int32)) E.hx E.hb dX9_pagesOfAll_0 ic_0 ?_
  refine k_istore_n (lv' := [(2, .int (0 : Int32)), (0, .ref (a_th 0)), (1, .int v1_0)]) E rfl hl dX9_pagesOfAll_1 rfl (by decide) rfl (fun ls hl => ?_)
  refine lv_iconst (v := (0 : Int32)) E.hx E.hb dX9_pagesOfAll_2 ic_0 ?_
  refine k_istore_n (lv' := [(3, .int (0 : Int32)), (2, .int (0 : Int32)), (0, .ref (a_th 0)), (1, .int v1_0)]) E rfl hl dX9_pagesOfAll_3 rfl (by decide) rfl (fun ls hl => ?_)
  have L_4 : ∀ (N_4 : Nat) (w2_j4 : Int32) (w3_j4 : Int32) (H : Heap) (locs : List Loc) (ls : Array Slot) (hW : WD k A s.heap (wModel k a_th th_0) H locs) (hl : lv_has ls 4 [(0, .ref (a_th 0)), (1, .int v1_0), (2, .int w2_j4), (3, .int w3_j4)]) (hf : l_X9_pagesOfAll_4 n th_0 v1_0 N_4 w2_j4 w3_j4 = some res), W p l e { frames := 1, cells := 0, slots := 0, locals := 23 } s m args below meth c H locs 0 0 Q (F0 m 4 ls []) := by
    intro N_4
    induction N_4 with
    | zero => intro w2_j4 w3_j4 H locs ls hW hl hf; exact o0 hf
    | succ N_4 ih_4 =>
      intro w2_j4 w3_j4 H locs ls hW hl hf
      have hf : s_X9_pagesOfAll_4 n th_0 v1_0 (l_X9_pagesOfAll_4 n th_0 v1_0 N_4) w2_j4 w3_j4 = some res := hf
      unfold s_X9_pagesOfAll_4 at hf
      refine k_iload_n E hl 3 dX9_pagesOfAll_4 rfl ?_
      refine k_aload_n E hl 0 dX9_pagesOfAll_5 rfl ?_
      refine gf_X9_13 E hW 0 rfl rfl dX9_pagesOfAll_6 ?_
      refine lv_bipush (v := (6 : Int32)) E.hx E.hb dX9_pagesOfAll_9 bp_6 ?_
      obtain ⟨hin, hf⟩ := oI hf
      obtain ⟨x_1, ex_1, hf⟩ := oL hf
      refine k_iald E hW 2 rfl hin dX9_pagesOfAll_11 ?_
      refine k_topi ex_1 ?_
      refine lv_icmp_ge (tgt := 39) E.hx E.hb dX9_pagesOfAll_12 (by decide) (fun hc => ?_) (fun hc => ?_)
      · have hf := oT hc hf
        refine k_iload_n E hl 2 dX9_pagesOfAll_39 rfl ?_
        exact hret _ () _ _ _ _ _ _ hW (Option.some.inj hf).symm rfl (by decide) (by decide) dX9_pagesOfAll_40
      · have hf := oF hc hf
        refine k_aload_n E hl 0 dX9_pagesOfAll_15 rfl ?_
        refine k_iload_n E hl 3 dX9_pagesOfAll_16 rfl ?_
        refine lv_iconst (v := (0 : Int32)) E.hx E.hb dX9_pagesOfAll_17 ic_0 ?_
        obtain ⟨r_2, hg, hf⟩ := ob hf
        refine k_callVi (As := [.int w3_j4, .int (0 : Int32)]) (rest := []) (ws2 := fun u => wModel k a_th th_0) (c_X9_loan0 n l k a_th th_0 w3_j4 (0 : Int32) r_2 hg) E vl_X9_106 dX9_pagesOfAll_18 rfl [0, 1, 2, 3, 4, 5, 6, 7, 8, 9, 10, 11, 12] 7 0 hW hA hl rfl rfl rfl rfl ⟨by decide, by decide⟩ ⟨by decide, by decide⟩ (Nat.le_of_ble_eq_true rfl) rfl (fun _ => rfl) (fun _ => rfl) (fun r u H locs hp hW => ?_)
        cases hp
        have hW : WD k A s.heap (wModel k a_th th_0) H locs := hW
        refine k_iload_n E hl 1 dX9_pagesOfAll_21 rfl ?_
        refine lv_icmp_ne (tgt := 33) E.hx E.hb dX9_pagesOfAll_22 (by decide) (fun hc => ?_) (fun hc => ?_)
        · have hf := oF hc hf
          obtain ⟨v3_3, ev3_3, hf⟩ := oL hf
          refine k_iinc (lv' := [(3, .int v3_3), (0, .ref (a_th 0)), (1, .int v1_0), (2, .int w2_j4)]) E hl 3 dX9_pagesOfAll_33 rfl (ev3_3.trans (congrArg (fun z => w3_j4 + z) ic_1.symm)) (by decide) rfl (fun ls hl => ?_)
          refine lv_goto (tgt := 4) E.hx E.hb dX9_pagesOfAll_36 (by decide) ?_
          exact ih_4 w2_j4 v3_3 _ _ _ hW (lv_sub hl [1, 2, 3, 0] rfl) hf
        · have hf := oT hc hf
          refine k_iload_n E hl 2 dX9_pagesOfAll_25 rfl ?_
          refine k_aload_n E hl 0 dX9_pagesOfAll_26 rfl ?_
          refine k_iload_n E hl 3 dX9_pagesOfAll_27 rfl ?_
          obtain ⟨r_4, hg, hf⟩ := ob hf
          refine k_callVi (As := [.int w3_j4]) (rest := [.int w2_j4]) (ws2 := fun u => wModel k a_th th_0) (c_X9_pagesOf n l k a_th th_0 w3_j4 r_4 hg) E vl_X9_103 dX9_pagesOfAll_28 rfl [0, 1, 2, 3, 4, 5, 6, 7, 8, 9, 10, 11, 12] 7 0 hW hA hl rfl rfl rfl rfl ⟨by decide, by decide⟩ ⟨by decide, by decide⟩ (Nat.le_of_ble_eq_true rfl) rfl (fun _ => rfl) (fun _ => rfl) (fun r u H locs hp hW => ?_)
          cases hp
          have hW : WD k A s.heap (wModel k a_th th_0) H locs := hW
          refine lv_iadd E.hx E.hb dX9_pagesOfAll_31 ?_
          obtain ⟨v2_5, ev2_5, hf⟩ := oL hf
          refine k_istore_n (lv' := [(2, .int v2_5), (0, .ref (a_th 0)), (1, .int v1_0), (3, .int w3_j4)]) E ev2_5 hl dX9_pagesOfAll_32 rfl (by decide) rfl (fun ls hl => ?_)
          obtain ⟨v3_6, ev3_6, hf⟩ := oL hf
          refine k_iinc (lv' := [(3, .int v3_6), (2, .int v2_5), (0, .ref (a_th 0)), (1, .int v1_0)]) E hl 3 dX9_pagesOfAll_33 rfl (ev3_6.trans (congrArg (fun z => w3_j4 + z) ic_1.symm)) (by decide) rfl (fun ls hl => ?_)
          refine lv_goto (tgt := 4) E.hx E.hb dX9_pagesOfAll_36 (by decide) ?_
          exact ih_4 v2_5 v3_6 _ _ _ hW (lv_sub hl [2, 3, 1, 0] rfl) hf
  exact L_4 n (0 : Int32) (0 : Int32) _ _ _ hW (lv_sub hl [2, 3, 1, 0] rfl) hf
def s_X9_loansOf_5 (n : Nat) (th_0 : OS) (w1_j5 : Int32) (w2_j5 : Int32) (rc_5 : (Int32) → (Int32) → Option (Int32)) (w3_j5 : Int32) (w4_j5 : Int32) : Option (Int32) :=
  gI 1846 (6 : Int32) (Let ((th_0.2.1 9) (6 : Int32).toNatClampNeg) (fun x_1 : Int32 =>
  if x_1 ≤ w4_j5 then (
  some w3_j5) else (
  bnd (f_X9_loan0 n th_0 w4_j5 (0 : Int32)) (fun (r_2 : Int32) =>
  if r_2 = w1_j5 then (
  if w2_j5 = 0 then (
  bnd (f_X9_pagesOf n th_0 w4_j5) (fun (r_4 : Int32) =>
  if r_4 ≤ 0 then (
  Let (w4_j5 + (1 : Int32)) (fun v4_5 : Int32 =>
  rc_5 w3_j5 v4_5)) else (
  Let (w3_j5 + (1 : Int32)) (fun v3_6 : Int32 =>
  Let (w4_j5 + (1 : Int32)) (fun v4_7 : Int32 =>
  rc_5 v3_6 v4_7))))) else (
  bnd (f_X9_isBrokenLoan n th_0 w4_j5) (fun (r_8 : Int32) =>
  if r_8 = 0 then (
  Let (w4_j5 + (1 : Int32)) (fun v4_9 : Int32 =>
  rc_5 w3_j5 v4_9)) else (
  Let (w3_j5 + (1 : Int32)) (fun v3_10 : Int32 =>
  Let (w4_j5 + (1 : Int32)) (fun v4_11 : Int32 =>
  rc_5 v3_10 v4_11)))))) else (
  Let (w4_j5 + (1 : Int32)) (fun v4_3 : Int32 =>
  rc_5 w3_j5 v4_3))))))
def l_X9_loansOf_5 (n : Nat) (th_0 : OS) (w1_j5 : Int32) (w2_j5 : Int32) : Nat → (Int32) → (Int32) → Option (Int32)
  | 0 => fun _ _ => none
  | N + 1 => s_X9_loansOf_5 n th_0 w1_j5 w2_j5 (l_X9_loansOf_5 n th_0 w1_j5 w2_j5 N)
def f_X9_loansOf (n : Nat) (th_0 : OS) (v1_0 : Int32) (v2_0 : Int32) : Option (Int32) :=
  l_X9_loansOf_5 n th_0 v1_0 v2_0 n (0 : Int32) (0 : Int32)
set_option maxHeartbeats 4000000 in
set_option maxRecDepth 100000 in
theorem c_X9_loansOf (n : Nat) (l : Launch) (k : KT) (a_th : Nat → Nat) (th_0 : OS) (v1_0 : Int32) (v2_0 : Int32) (res : (Int32)) (hf : f_X9_loansOf n th_0 v1_0 v2_0 = some res) : CG l k yX9_loansOf cX9_loansOf 5 (some .int) 2 0 0 44 [.ref (a_th 0), .int v1_0, .int v2_0] (wModel k a_th th_0) (Qi k (fun u : Unit => wModel k a_th th_0) (fun (r : Int32) (u : Unit) => res = r)) := by
  refine CG.ofI (by decide) (Nat.le_of_ble_eq_true rfl) (fun p e s m args below meth c A Q E hnm hW hA hret ls hl => ?_)
  have hl : lv_has ls 5 [(0, .ref (a_th 0)), (1, .int v1_0), (2, .int v2_0)] := hl
  unfold f_X9_loansOf at hf
  refine lv_iconst (v := (0 : Int32)) E.hx E.hb dX9_loansOf_0 ic_0 ?_
  refine k_istore_n (lv' := [(3, .int (0 : Int32)), (0, .ref (a_th 0)), (1, .int v1_0), (2, .int v2_0)]) E rfl hl dX9_loansOf_1 rfl (by decide) rfl (fun ls hl => ?_)
  refine lv_iconst (v := (0 : Int32)) E.hx E.hb dX9_loansOf_2 ic_0 ?_
  refine k_istore (lv' := [(4, .int (0 : Int32)), (3, .int (0 : Int32)), (0, .ref (a_th 0)), (1, .int v1_0), (2, .int v2_0)]) E rfl hl dX9_loansOf_3 (by decide) rfl (fun ls hl => ?_)
  have L_5 : ∀ (N_5 : Nat) (w3_j5 : Int32) (w4_j5 : Int32) (H : Heap) (locs : List Loc) (ls : Array Slot) (hW : WD k A s.heap (wModel k a_th th_0) H locs) (hl : lv_has ls 5 [(0, .ref (a_th 0)), (1, .int v1_0), (2, .int v2_0), (3, .int w3_j5), (4, .int w4_j5)]) (hf : l_X9_loansOf_5 n th_0 v1_0 v2_0 N_5 w3_j5 w4_j5 = some res), W p l e { frames := 2, cells := 0, slots := 0, locals := 44 } s m args below meth c H locs 0 0 Q (F0 m 5 ls []) := by
    intro N_5
    induction N_5 with
    | zero => intro w3_j5 w4_j5 H locs ls hW hl hf; exact o0 hf
    | succ N_5 ih_5 =>
      intro w3_j5 w4_j5 H locs ls hW hl hf
      have hf : s_X9_loansOf_5 n th_0 v1_0 v2_0 (l_X9_loansOf_5 n th_0 v1_0 v2_0 N_5) w3_j5 w4_j5 = some res := hf
      unfold s_X9_loansOf_5 at hf
      refine k_iload E hl 4 dX9_loansOf_5 rfl ?_
      refine k_aload_n E hl 0 dX9_loansOf_7 rfl ?_
      refine gf_X9_13 E hW 0 rfl rfl dX9_loansOf_8 ?_
      refine lv_bipush (v := (6 : Int32)) E.hx E.hb dX9_loansOf_11 bp_6 ?_
      obtain ⟨hin, hf⟩ := oI hf
      obtain ⟨x_1, ex_1, hf⟩ := oL hf
      refine k_iald E hW 2 rfl hin dX9_loansOf_13 ?_
      refine k_topi ex_1 ?_
      refine lv_icmp_ge (tgt := 63) E.hx E.hb dX9_loansOf_14 (by decide) (fun hc => ?_) (fun hc => ?_)
      · have hf := oT hc hf
        refine k_iload_n E hl 3 dX9_loansOf_63 rfl ?_
        exact hret _ () _ _ _ _ _ _ hW (Option.some.inj hf).symm rfl (by decide) (by decide) dX9_loansOf_64
      · have hf := oF hc hf
        refine k_aload_n E hl 0 dX9_loansOf_17 rfl ?_
        refine k_iload E hl 4 dX9_loansOf_18 rfl ?_
        refine lv_iconst (v := (0 : Int32)) E.hx E.hb dX9_loansOf_20 ic_0 ?_
        obtain ⟨r_2, hg, hf⟩ := ob hf
        refine k_callVi (As := [.int w4_j5, .int (0 : Int32)]) (rest := []) (ws2 := fun u => wModel k a_th th_0) (c_X9_loan0 n l k a_th th_0 w4_j5 (0 : Int32) r_2 hg) E vl_X9_106 dX9_loansOf_21 rfl [0, 1, 2, 3, 4, 5, 6, 7, 8, 9, 10, 11, 12] 7 0 hW hA hl rfl rfl rfl rfl ⟨by decide, by decide⟩ ⟨by decide, by decide⟩ (Nat.le_of_ble_eq_true rfl) rfl (fun _ => rfl) (fun _ => rfl) (fun r u H locs hp hW => ?_)
        cases hp
        have hW : WD k A s.heap (wModel k a_th th_0) H locs := hW
        refine k_iload_n E hl 1 dX9_loansOf_24 rfl ?_
        refine lv_icmp_ne (tgt := 57) E.hx E.hb dX9_loansOf_25 (by decide) (fun hc => ?_) (fun hc => ?_)
        · have hf := oF hc hf
          obtain ⟨v4_3, ev4_3, hf⟩ := oL hf
          refine k_iinc (lv' := [(4, .int v4_3), (0, .ref (a_th 0)), (1, .int v1_0), (2, .int v2_0), (3, .int w3_j5)]) E hl 4 dX9_loansOf_57 rfl (ev4_3.trans (congrArg (fun z => w4_j5 + z) ic_1.symm)) (by decide) rfl (fun ls hl => ?_)
          refine lv_goto (tgt := 5) E.hx E.hb dX9_loansOf_60 (by decide) ?_
          exact ih_5 w3_j5 v4_3 _ _ _ hW (lv_sub hl [1, 2, 3, 4, 0] rfl) hf
        · have hf := oT hc hf
          refine k_iload_n E hl 2 dX9_loansOf_28 rfl ?_
          refine lv_if_eq (tgt := 44) E.hx E.hb dX9_loansOf_29 (by decide) (fun hc => ?_) (fun hc => ?_)
          · have hf := oT hc hf
            refine k_aload_n E hl 0 dX9_loansOf_44 rfl ?_
            refine k_iload E hl 4 dX9_loansOf_45 rfl ?_
            obtain ⟨r_4, hg, hf⟩ := ob hf
            refine k_callVi (As := [.int w4_j5]) (rest := []) (ws2 := fun u => wModel k a_th th_0) (c_X9_pagesOf n l k a_th th_0 w4_j5 r_4 hg) E vl_X9_103 dX9_loansOf_47 rfl [0, 1, 2, 3, 4, 5, 6, 7, 8, 9, 10, 11, 12] 7 0 hW hA hl rfl rfl rfl rfl ⟨by decide, by decide⟩ ⟨by decide, by decide⟩ (Nat.le_of_ble_eq_true rfl) rfl (fun _ => rfl) (fun _ => rfl) (fun r u H locs hp hW => ?_)
            cases hp
            have hW : WD k A s.heap (wModel k a_th th_0) H locs := hW
            refine lv_if_le (tgt := 57) E.hx E.hb dX9_loansOf_50 (by decide) (fun hc => ?_) (fun hc => ?_)
            · have hf := oT hc hf
              obtain ⟨v4_5, ev4_5, hf⟩ := oL hf
              refine k_iinc (lv' := [(4, .int v4_5), (0, .ref (a_th 0)), (1, .int v1_0), (2, .int v2_0), (3, .int w3_j5)]) E hl 4 dX9_loansOf_57 rfl (ev4_5.trans (congrArg (fun z => w4_j5 + z) ic_1.symm)) (by decide) rfl (fun ls hl => ?_)
              refine lv_goto (tgt := 5) E.hx E.hb dX9_loansOf_60 (by decide) ?_
              exact ih_5 w3_j5 v4_5 _ _ _ hW (lv_sub hl [1, 2, 3, 4, 0] rfl) hf
            · have hf := oF hc hf
              refine k_iload_n E hl 3 dX9_loansOf_53 rfl ?_
              refine lv_iconst (v := (1 : Int32)) E.hx E.hb dX9_loansOf_54 ic_1 ?_
              refine lv_iadd E.hx E.hb dX9_loansOf_55 ?_
              obtain ⟨v3_6, ev3_6, hf⟩ := oL hf
              refine k_istore_n (lv' := [(3, .int v3_6), (0, .ref (a_th 0)), (1, .int v1_0), (2, .int v2_0), (4, .int w4_j5)]) E ev3_6 hl dX9_loansOf_56 rfl (by decide) rfl (fun ls hl => ?_)
              obtain ⟨v4_7, ev4_7, hf⟩ := oL hf
              refine k_iinc (lv' := [(4, .int v4_7), (3, .int v3_6), (0, .ref (a_th 0)), (1, .int v1_0), (2, .int v2_0)]) E hl 4 dX9_loansOf_57 rfl (ev4_7.trans (congrArg (fun z => w4_j5 + z) ic_1.symm)) (by decide) rfl (fun ls hl => ?_)
              refine lv_goto (tgt := 5) E.hx E.hb dX9_loansOf_60 (by decide) ?_
              exact ih_5 v3_6 v4_7 _ _ _ hW (lv_sub hl [2, 3, 4, 1, 0] rfl) hf
          · have hf := oF hc hf
            refine k_aload_n E hl 0 dX9_loansOf_32 rfl ?_
            refine k_iload E hl 4 dX9_loansOf_33 rfl ?_
            obtain ⟨r_8, hg, hf⟩ := ob hf
            refine k_callVi (As := [.int w4_j5]) (rest := []) (ws2 := fun u => wModel k a_th th_0) (c_X9_isBrokenLoan n l k a_th th_0 w4_j5 r_8 hg) E vl_X9_109 dX9_loansOf_35 rfl [0, 1, 2, 3, 4, 5, 6, 7, 8, 9, 10, 11, 12] 7 0 hW hA hl rfl rfl rfl rfl ⟨by decide, by decide⟩ ⟨by decide, by decide⟩ (Nat.le_of_ble_eq_true rfl) rfl (fun _ => rfl) (fun _ => rfl) (fun r u H locs hp hW => ?_)
            cases hp
            have hW : WD k A s.heap (wModel k a_th th_0) H locs := hW
            refine lv_if_eq (tgt := 57) E.hx E.hb dX9_loansOf_38 (by decide) (fun hc => ?_) (fun hc => ?_)
            · have hf := oT hc hf
              obtain ⟨v4_9, ev4_9, hf⟩ := oL hf
              refine k_iinc (lv' := [(4, .int v4_9), (0, .ref (a_th 0)), (1, .int v1_0), (2, .int v2_0), (3, .int w3_j5)]) E hl 4 dX9_loansOf_57 rfl (ev4_9.trans (congrArg (fun z => w4_j5 + z) ic_1.symm)) (by decide) rfl (fun ls hl => ?_)
              refine lv_goto (tgt := 5) E.hx E.hb dX9_loansOf_60 (by decide) ?_
              exact ih_5 w3_j5 v4_9 _ _ _ hW (lv_sub hl [1, 2, 3, 4, 0] rfl) hf
            · have hf := oF hc hf
              refine lv_goto (tgt := 53) E.hx E.hb dX9_loansOf_41 (by decide) ?_
              refine k_iload_n E hl 3 dX9_loansOf_53 rfl ?_
              refine lv_iconst (v := (1 : Int32)) E.hx E.hb dX9_loansOf_54 ic_1 ?_
              refine lv_iadd E.hx E.hb dX9_loansOf_55 ?_
              obtain ⟨v3_10, ev3_10, hf⟩ := oL hf
              refine k_istore_n (lv' := [(3, .int v3_10), (0, .ref (a_th 0)), (1, .int v1_0), (2, .int v2_0), (4, .int w4_j5)]) E ev3_10 hl dX9_loansOf_56 rfl (by decide) rfl (fun ls hl => ?_)
              obtain ⟨v4_11, ev4_11, hf⟩ := oL hf
              refine k_iinc (lv' := [(4, .int v4_11), (3, .int v3_10), (0, .ref (a_th 0)), (1, .int v1_0), (2, .int v2_0)]) E hl 4 dX9_loansOf_57 rfl (ev4_11.trans (congrArg (fun z => w4_j5 + z) ic_1.symm)) (by decide) rfl (fun ls hl => ?_)
              refine lv_goto (tgt := 5) E.hx E.hb dX9_loansOf_60 (by decide) ?_
              exact ih_5 v3_10 v4_11 _ _ _ hW (lv_sub hl [2, 3, 4, 1, 0] rfl) hf
  exact L_5 n (0 : Int32) (0 : Int32) _ _ _ hW (lv_sub hl [2, 3, 4, 1, 0] rfl) hf
def s_X9_waitingOf_4 (n : Nat) (th_0 : OS) (w1_j4 : Int32) (rc_4 : (Int32) → (Int32) → Option (Int32)) (w2_j4 : Int32) (w3_j4 : Int32) : Option (Int32) :=
  gI 1846 (7 : Int32) (Let ((th_0.2.1 9) (7 : Int32).toNatClampNeg) (fun x_1 : Int32 =>
  if x_1 ≤ w3_j4 then (
  some w2_j4) else (
  bnd (f_X9_doesWait n th_0 w3_j4) (fun (r_2 : Int32) =>
  if r_2 = 0 then (
  Let (w3_j4 + (1 : Int32)) (fun v3_3 : Int32 =>
  rc_4 w2_j4 v3_3)) else (
  bnd (f_X9_claim0 n th_0 w3_j4 (0 : Int32)) (fun (r_4 : Int32) =>
  if r_4 = w1_j4 then (
  Let (w2_j4 + (1 : Int32)) (fun v2_6 : Int32 =>
  Let (w3_j4 + (1 : Int32)) (fun v3_7 : Int32 =>
  rc_4 v2_6 v3_7))) else (
  Let (w3_j4 + (1 : Int32)) (fun v3_5 : Int32 =>
  rc_4 w2_j4 v3_5))))))))
def l_X9_waitingOf_4 (n : Nat) (th_0 : OS) (w1_j4 : Int32) : Nat → (Int32) → (Int32) → Option (Int32)
  | 0 => fun _ _ => none
  | N + 1 => s_X9_waitingOf_4 n th_0 w1_j4 (l_X9_waitingOf_4 n th_0 w1_j4 N)
def f_X9_waitingOf (n : Nat) (th_0 : OS) (v1_0 : Int32) : Option (Int32) :=
  l_X9_waitingOf_4 n th_0 v1_0 n (0 : Int32) (0 : Int32)
set_option maxHeartbeats 4000000 in
set_option maxRecDepth 100000 in
theorem c_X9_waitingOf (n : Nat) (l : Launch) (k : KT) (a_th : Nat → Nat) (th_0 : OS) (v1_0 : Int32) (res : (Int32)) (hf : f_X9_waitingOf n th_0 v1_0 = some res) : CG l k yX9_waitingOf cX9_waitingOf 4 (some .int) 2 0 0 43 [.ref (a_th 0), .int v1_0] (wModel k a_th th_0) (Qi k (fun u : Unit => wModel k a_th th_0) (fun (r : Int32) (u : Unit) => res = r)) := by
  refine CG.ofI (by decide) (Nat.le_of_ble_eq_true rfl) (fun p e s m args below meth c A Q E hnm hW hA hret ls hl => ?_)
  have hl : lv_has ls 4 [(0, .ref (a_th 0)), (1, .int v1_0)] := hl
  unfold f_X9_waitingOf at hf
  refine lv_iconst (v := (0 : Int32)) E.hx E.hb dX9_waitingOf_0 ic_0 ?_
  refine k_istore_n (lv' := [(2, .int (0 : Int32)), (0, .ref (a_th 0)), (1, .int v1_0)]) E rfl hl dX9_waitingOf_1 rfl (by decide) rfl (fun ls hl => ?_)
  refine lv_iconst (v := (0 : Int32)) E.hx E.hb dX9_waitingOf_2 ic_0 ?_
  refine k_istore_n (lv' := [(3, .int (0 : Int32)), (2, .int (0 : Int32)), (0, .ref (a_th 0)), (1, .int v1_0)]) E rfl hl dX9_waitingOf_3 rfl (by decide) rfl (fun ls hl => ?_)
  have L_4 : ∀ (N_4 : Nat) (w2_j4 : Int32) (w3_j4 : Int32) (H : Heap) (locs : List Loc) (ls : Array Slot) (hW : WD k A s.heap (wModel k a_th th_0) H locs) (hl : lv_has ls 4 [(0, .ref (a_th 0)), (1, .int v1_0), (2, .int w2_j4), (3, .int w3_j4)]) (hf : l_X9_waitingOf_4 n th_0 v1_0 N_4 w2_j4 w3_j4 = some res), W p l e { frames := 2, cells := 0, slots := 0, locals := 43 } s m args below meth c H locs 0 0 Q (F0 m 4 ls []) := by
    intro N_4
    induction N_4 with
    | zero => intro w2_j4 w3_j4 H locs ls hW hl hf; exact o0 hf
    | succ N_4 ih_4 =>
      intro w2_j4 w3_j4 H locs ls hW hl hf
      have hf : s_X9_waitingOf_4 n th_0 v1_0 (l_X9_waitingOf_4 n th_0 v1_0 N_4) w2_j4 w3_j4 = some res := hf
      unfold s_X9_waitingOf_4 at hf
      refine k_iload_n E hl 3 dX9_waitingOf_4 rfl ?_
      refine k_aload_n E hl 0 dX9_waitingOf_5 rfl ?_
      refine gf_X9_13 E hW 0 rfl rfl dX9_waitingOf_6 ?_
      refine lv_bipush (v := (7 : Int32)) E.hx E.hb dX9_waitingOf_9 bp_7 ?_
      obtain ⟨hin, hf⟩ := oI hf
      obtain ⟨x_1, ex_1, hf⟩ := oL hf
      refine k_iald E hW 2 rfl hin dX9_waitingOf_11 ?_
      refine k_topi ex_1 ?_
      refine lv_icmp_ge (tgt := 43) E.hx E.hb dX9_waitingOf_12 (by decide) (fun hc => ?_) (fun hc => ?_)
      · have hf := oT hc hf
        refine k_iload_n E hl 2 dX9_waitingOf_43 rfl ?_
        exact hret _ () _ _ _ _ _ _ hW (Option.some.inj hf).symm rfl (by decide) (by decide) dX9_waitingOf_44
      · have hf := oF hc hf
        refine k_aload_n E hl 0 dX9_waitingOf_15 rfl ?_
        refine k_iload_n E hl 3 dX9_waitingOf_16 rfl ?_
        obtain ⟨r_2, hg, hf⟩ := ob hf
        refine k_callVi (As := [.int w3_j4]) (rest := []) (ws2 := fun u => wModel k a_th th_0) (c_X9_doesWait n l k a_th th_0 w3_j4 r_2 hg) E vl_X9_142 dX9_waitingOf_17 rfl [0, 1, 2, 3, 4, 5, 6, 7, 8, 9, 10, 11, 12] 7 0 hW hA hl rfl rfl rfl rfl ⟨by decide, by decide⟩ ⟨by decide, by decide⟩ (Nat.le_of_ble_eq_true rfl) rfl (fun _ => rfl) (fun _ => rfl) (fun r u H locs hp hW => ?_)
        cases hp
        have hW : WD k A s.heap (wModel k a_th th_0) H locs := hW
        refine lv_if_eq (tgt := 37) E.hx E.hb dX9_waitingOf_20 (by decide) (fun hc => ?_) (fun hc => ?_)
        · have hf := oT hc hf
          obtain ⟨v3_3, ev3_3, hf⟩ := oL hf
          refine k_iinc (lv' := [(3, .int v3_3), (0, .ref (a_th 0)), (1, .int v1_0), (2, .int w2_j4)]) E hl 3 dX9_waitingOf_37 rfl (ev3_3.trans (congrArg (fun z => w3_j4 + z) ic_1.symm)) (by decide) rfl (fun ls hl => ?_)
          refine lv_goto (tgt := 4) E.hx E.hb dX9_waitingOf_40 (by decide) ?_
          exact ih_4 w2_j4 v3_3 _ _ _ hW (lv_sub hl [1, 2, 3, 0] rfl) hf
        · have hf := oF hc hf
          refine k_aload_n E hl 0 dX9_waitingOf_23 rfl ?_
          refine k_iload_n E hl 3 dX9_waitingOf_24 rfl ?_
          refine lv_iconst (v := (0 : Int32)) E.hx E.hb dX9_waitingOf_25 ic_0 ?_
          obtain ⟨r_4, hg, hf⟩ := ob hf
          refine k_callVi (As := [.int w3_j4, .int (0 : Int32)]) (rest := []) (ws2 := fun u => wModel k a_th th_0) (c_X9_claim0 n l k a_th th_0 w3_j4 (0 : Int32) r_4 hg) E vl_X9_139 dX9_waitingOf_26 rfl [0, 1, 2, 3, 4, 5, 6, 7, 8, 9, 10, 11, 12] 7 0 hW hA hl rfl rfl rfl rfl ⟨by decide, by decide⟩ ⟨by decide, by decide⟩ (Nat.le_of_ble_eq_true rfl) rfl (fun _ => rfl) (fun _ => rfl) (fun r u H locs hp hW => ?_)
          cases hp
          have hW : WD k A s.heap (wModel k a_th th_0) H locs := hW
          refine k_iload_n E hl 1 dX9_waitingOf_29 rfl ?_
          refine lv_icmp_ne (tgt := 37) E.hx E.hb dX9_waitingOf_30 (by decide) (fun hc => ?_) (fun hc => ?_)
          · have hf := oF hc hf
            obtain ⟨v3_5, ev3_5, hf⟩ := oL hf
            refine k_iinc (lv' := [(3, .int v3_5), (0, .ref (a_th 0)), (1, .int v1_0), (2, .int w2_j4)]) E hl 3 dX9_waitingOf_37 rfl (ev3_5.trans (congrArg (fun z => w3_j4 + z) ic_1.symm)) (by decide) rfl (fun ls hl => ?_)
            refine lv_goto (tgt := 4) E.hx E.hb dX9_waitingOf_40 (by decide) ?_
            exact ih_4 w2_j4 v3_5 _ _ _ hW (lv_sub hl [1, 2, 3, 0] rfl) hf
          · have hf := oT hc hf
            refine k_iload_n E hl 2 dX9_waitingOf_33 rfl ?_
            refine lv_iconst (v := (1 : Int32)) E.hx E.hb dX9_waitingOf_34 ic_1 ?_
            refine lv_iadd E.hx E.hb dX9_waitingOf_35 ?_
            obtain ⟨v2_6, ev2_6, hf⟩ := oL hf
            refine k_istore_n (lv' := [(2, .int v2_6), (0, .ref (a_th 0)), (1, .int v1_0), (3, .int w3_j4)]) E ev2_6 hl dX9_waitingOf_36 rfl (by decide) rfl (fun ls hl => ?_)
            obtain ⟨v3_7, ev3_7, hf⟩ := oL hf
            refine k_iinc (lv' := [(3, .int v3_7), (2, .int v2_6), (0, .ref (a_th 0)), (1, .int v1_0)]) E hl 3 dX9_waitingOf_37 rfl (ev3_7.trans (congrArg (fun z => w3_j4 + z) ic_1.symm)) (by decide) rfl (fun ls hl => ?_)
            refine lv_goto (tgt := 4) E.hx E.hb dX9_waitingOf_40 (by decide) ?_
            exact ih_4 v2_6 v3_7 _ _ _ hW (lv_sub hl [2, 3, 1, 0] rfl) hf
  exact L_4 n (0 : Int32) (0 : Int32) _ _ _ hW (lv_sub hl [2, 3, 1, 0] rfl) hf
def j_X9_process_84 (n : Nat) (v1_0 : Int32) (v2_0 : Int32) (th_j84 : OS) : Option (OS × Int32) :=
  bnd (f_X9_process0 n th_j84 v1_0 v2_0) (fun (r_4 : Int32) =>
  some (th_j84, r_4))
def j_X9_process_26 (n : Nat) (v1_0 : Int32) (v2_0 : Int32) (th_j26 : OS) (s1_j26 : Int32) : Option (OS × Int32) :=
  bnd2 (f_X9_is n th_j26 s1_j26) (fun (th_2 : OS) (r_3 : Int32) =>
  if r_3 = 0 then (
  some (th_2, (0 : Int32))) else (
  if (v2_0).toInt < 0 ∨ 8 < (v2_0).toInt then (
  bnd (f_X9_process0 n th_2 v1_0 (5 : Int32)) (fun (r_5 : Int32) =>
  some (th_2, r_5))) else (if v2_0 = (0 : Int32) then (
  j_X9_process_84 n v1_0 v2_0 th_2) else (if v2_0 = (1 : Int32) then (
  j_X9_process_84 n v1_0 v2_0 th_2) else (if v2_0 = (2 : Int32) then (
  j_X9_process_84 n v1_0 v2_0 th_2) else (if v2_0 = (3 : Int32) then (
  bnd (f_X9_pagesOfAll n th_2 v1_0) (fun (r_6 : Int32) =>
  some (th_2, r_6))) else (if v2_0 = (4 : Int32) then (
  bnd (f_X9_loansOf n th_2 v1_0 (0 : Int32)) (fun (r_7 : Int32) =>
  some (th_2, r_7))) else (if v2_0 = (5 : Int32) then (
  bnd (f_X9_loansOf n th_2 v1_0 (1 : Int32)) (fun (r_8 : Int32) =>
  some (th_2, r_8))) else (if v2_0 = (6 : Int32) then (
  bnd (f_X9_waitingOf n th_2 v1_0) (fun (r_9 : Int32) =>
  some (th_2, r_9))) else (if v2_0 = (7 : Int32) then (
  bnd (f_X9_process0 n th_2 v1_0 (3 : Int32)) (fun (r_10 : Int32) =>
  some (th_2, r_10))) else (bnd (f_X9_process0 n th_2 v1_0 (4 : Int32)) (fun (r_11 : Int32) =>
  some (th_2, r_11)))))))))))))
def f_X9_process (n : Nat) (th_0 : OS) (v1_0 : Int32) (v2_0 : Int32) : Option (OS × Int32) :=
  bnd (f_X9_isProcess n th_0 v1_0) (fun (r_1 : Int32) =>
  if r_1 = 0 then (
  j_X9_process_26 n v1_0 v2_0 th_0 (0 : Int32)) else (
  bnd (f_X9_isIn n ((v2_0).toInt64) (0 : Int64) (9 : Int64)) (fun (r_12 : Int32) =>
  if r_12 = 0 then (
  j_X9_process_26 n v1_0 v2_0 th_0 (0 : Int32)) else (
  j_X9_process_26 n v1_0 v2_0 th_0 (1 : Int32)))))
set_option maxHeartbeats 4000000 in
set_option maxRecDepth 100000 in
theorem c_X9_process (n : Nat) (l : Launch) (k : KT) (a_th : Nat → Nat) (th_0 : OS) (v1_0 : Int32) (v2_0 : Int32) (res : (OS × Int32)) (hf : f_X9_process n th_0 v1_0 v2_0 = some res) : CG l k yX9_process cX9_process 3 (some .int) 3 0 0 68 [.ref (a_th 0), .int v1_0, .int v2_0] (wModel k a_th th_0) (Qi k (fun u : OS => wModel k a_th u) (fun (r : Int32) (u : OS) => res = (u, r))) := by
  refine CG.ofI (by decide) (Nat.le_of_ble_eq_true rfl) (fun p e s m args below meth c A Q E hnm hW hA hret ls hl => ?_)
  have hl : lv_has ls 3 [(0, .ref (a_th 0)), (1, .int v1_0), (2, .int v2_0)] := hl
  unfold f_X9_process at hf
  refine k_aload_n E hl 0 dX9_process_0 rfl ?_
  refine k_aload_n E hl 0 dX9_process_1 rfl ?_
  refine k_iload_n E hl 1 dX9_process_2 rfl ?_
  obtain ⟨r_1, hg, hf⟩ := ob hf
  refine k_callVi (As := [.int v1_0]) (rest := [.ref (a_th 0)]) (ws2 := fun u => wModel k a_th th_0) (c_X9_isProcess n l k a_th th_0 v1_0 r_1 hg) E vl_X9_223 dX9_process_3 rfl [0, 1, 2, 3, 4, 5, 6, 7, 8, 9, 10, 11, 12] 7 0 hW hA hl rfl rfl rfl rfl ⟨by decide, by decide⟩ ⟨by decide, by decide⟩ (Nat.le_of_ble_eq_true rfl) rfl (fun _ => rfl) (fun _ => rfl) (fun r u H locs hp hW => ?_)
  cases hp
  have hW : WD k A s.heap (wModel k a_th th_0) H locs := hW
  have J_26 : ∀ (th_j26 : OS) (s1_j26 : Int32) (H : Heap) (locs : List Loc) (ls : Array Slot) (hW : WD k A s.heap (wModel k a_th th_j26) H locs) (hl : lv_has ls 3 [(0, .ref (a_th 0)), (1, .int v1_0), (2, .int v2_0)]) (hf : j_X9_process_26 n v1_0 v2_0 th_j26 s1_j26 = some res), W p l e { frames := 3, cells := 0, slots := 0, locals := 68 } s m args below meth c H locs 0 0 Q (F0 m 26 ls [.int s1_j26, .ref (a_th 0)]) := by
    intro th_j26 s1_j26 H locs ls hW hl hf
    unfold j_X9_process_26 at hf
    obtain ⟨th_2, r_3, hg, hf⟩ := ob2 hf
    refine k_callVi (As := [.int s1_j26]) (rest := []) (ws2 := fun u => wModel k a_th (u)) (c_X9_is n l k a_th th_j26 s1_j26 (th_2, r_3) hg) E vl_X9_77 dX9_process_26 rfl [0, 1, 2, 3, 4, 5, 6, 7, 8, 9, 10, 11, 12] 7 0 hW hA hl rfl rfl rfl rfl ⟨by decide, by decide⟩ ⟨by decide, by decide⟩ (Nat.le_of_ble_eq_true rfl) rfl (fun _ => rfl) (fun _ => rfl) (fun r u H locs hp hW => ?_)
    cases hp
    have hW : WD k A s.heap (wModel k a_th th_2) H locs := hW
    refine lv_if_ne (tgt := 34) E.hx E.hb dX9_process_29 (by decide) (fun hc => ?_) (fun hc => ?_)
    · have hf := oF hc hf
      refine k_iload_n E hl 2 dX9_process_34 rfl ?_
      have J_84 : ∀ (th_j84 : OS) (H : Heap) (locs : List Loc) (ls : Array Slot) (hW : WD k A s.heap (wModel k a_th th_j84) H locs) (hl : lv_has ls 3 [(0, .ref (a_th 0)), (1, .int v1_0), (2, .int v2_0)]) (hf : j_X9_process_84 n v1_0 v2_0 th_j84 = some res), W p l e { frames := 3, cells := 0, slots := 0, locals := 68 } s m args below meth c H locs 0 0 Q (F0 m 84 ls []) := by
        intro th_j84 H locs ls hW hl hf
        unfold j_X9_process_84 at hf
        refine k_aload_n E hl 0 dX9_process_84 rfl ?_
        refine k_iload_n E hl 1 dX9_process_85 rfl ?_
        refine k_iload_n E hl 2 dX9_process_86 rfl ?_
        obtain ⟨r_4, hg, hf⟩ := ob hf
        refine k_callVi (As := [.int v1_0, .int v2_0]) (rest := []) (ws2 := fun u => wModel k a_th th_j84) (c_X9_process0 n l k a_th th_j84 v1_0 v2_0 r_4 hg) E vl_X9_120 dX9_process_87 rfl [0, 1, 2, 3, 4, 5, 6, 7, 8, 9, 10, 11, 12] 7 0 hW hA hl rfl rfl rfl rfl ⟨by decide, by decide⟩ ⟨by decide, by decide⟩ (Nat.le_of_ble_eq_true rfl) rfl (fun _ => rfl) (fun _ => rfl) (fun r u H locs hp hW => ?_)
        cases hp
        have hW : WD k A s.heap (wModel k a_th th_j84) H locs := hW
        exact hret _ th_j84 _ _ _ _ _ _ hW (Option.some.inj hf).symm rfl (by decide) (by decide) dX9_process_90
      by_cases hsw : (v2_0).toInt < 0 ∨ 8 < (v2_0).toInt
      · have hf := oT hsw hf
        refine lv_tableOut (tgt := 131) E.hx E.hb dX9_process_35 hsw (by decide) ?_
        refine k_aload_n E hl 0 dX9_process_131 rfl ?_
        refine k_iload_n E hl 1 dX9_process_132 rfl ?_
        refine lv_iconst (v := (5 : Int32)) E.hx E.hb dX9_process_133 ic_5 ?_
        obtain ⟨r_5, hg, hf⟩ := ob hf
        refine k_callVi (As := [.int v1_0, .int (5 : Int32)]) (rest := []) (ws2 := fun u => wModel k a_th th_2) (c_X9_process0 n l k a_th th_2 v1_0 (5 : Int32) r_5 hg) E vl_X9_120 dX9_process_134 rfl [0, 1, 2, 3, 4, 5, 6, 7, 8, 9, 10, 11, 12] 7 0 hW hA hl rfl rfl rfl rfl ⟨by decide, by decide⟩ ⟨by decide, by decide⟩ (Nat.le_of_ble_eq_true rfl) rfl (fun _ => rfl) (fun _ => rfl) (fun r u H locs hp hW => ?_)
        cases hp
        have hW : WD k A s.heap (wModel k a_th th_2) H locs := hW
        exact hret _ th_2 _ _ _ _ _ _ hW (Option.some.inj hf).symm rfl (by decide) (by decide) dX9_process_137
      · have hf := oF hsw hf
        by_cases hc : v2_0 = (0 : Int32)
        · have hf := oT hc hf
          refine lv_tableIn (off := (49)) (tgt := 84) E.hx E.hb dX9_process_35 (by rw [hc]; decide) (by rw [hc]; decide) (by rw [hc]; rfl) (by decide) ?_
          exact J_84 th_2 _ _ _ hW (lv_sub hl [0, 1, 2] rfl) hf
        have hf := oF hc hf; have hn_0 := hc; clear hc
        by_cases hc : v2_0 = (1 : Int32)
        · have hf := oT hc hf
          refine lv_tableIn (off := (49)) (tgt := 84) E.hx E.hb dX9_process_35 (by rw [hc]; decide) (by rw [hc]; decide) (by rw [hc]; rfl) (by decide) ?_
          exact J_84 th_2 _ _ _ hW (lv_sub hl [0, 1, 2] rfl) hf
        have hf := oF hc hf; have hn_1 := hc; clear hc
        by_cases hc : v2_0 = (2 : Int32)
        · have hf := oT hc hf
          refine lv_tableIn (off := (49)) (tgt := 84) E.hx E.hb dX9_process_35 (by rw [hc]; decide) (by rw [hc]; decide) (by rw [hc]; rfl) (by decide) ?_
          exact J_84 th_2 _ _ _ hW (lv_sub hl [0, 1, 2] rfl) hf
        have hf := oF hc hf; have hn_2 := hc; clear hc
        by_cases hc : v2_0 = (3 : Int32)
        · have hf := oT hc hf
          refine lv_tableIn (off := (56)) (tgt := 91) E.hx E.hb dX9_process_35 (by rw [hc]; decide) (by rw [hc]; decide) (by rw [hc]; rfl) (by decide) ?_
          refine k_aload_n E hl 0 dX9_process_91 rfl ?_
          refine k_iload_n E hl 1 dX9_process_92 rfl ?_
          obtain ⟨r_6, hg, hf⟩ := ob hf
          refine k_callVi (As := [.int v1_0]) (rest := []) (ws2 := fun u => wModel k a_th th_2) (c_X9_pagesOfAll n l k a_th th_2 v1_0 r_6 hg) E vl_X9_283 dX9_process_93 rfl [0, 1, 2, 3, 4, 5, 6, 7, 8, 9, 10, 11, 12] 7 0 hW hA hl rfl rfl rfl rfl ⟨by decide, by decide⟩ ⟨by decide, by decide⟩ (Nat.le_of_ble_eq_true rfl) rfl (fun _ => rfl) (fun _ => rfl) (fun r u H locs hp hW => ?_)
          cases hp
          have hW : WD k A s.heap (wModel k a_th th_2) H locs := hW
          exact hret _ th_2 _ _ _ _ _ _ hW (Option.some.inj hf).symm rfl (by decide) (by decide) dX9_process_96
        have hf := oF hc hf; have hn_3 := hc; clear hc
        by_cases hc : v2_0 = (4 : Int32)
        · have hf := oT hc hf
          refine lv_tableIn (off := (62)) (tgt := 97) E.hx E.hb dX9_process_35 (by rw [hc]; decide) (by rw [hc]; decide) (by rw [hc]; rfl) (by decide) ?_
          refine k_aload_n E hl 0 dX9_process_97 rfl ?_
          refine k_iload_n E hl 1 dX9_process_98 rfl ?_
          refine lv_iconst (v := (0 : Int32)) E.hx E.hb dX9_process_99 ic_0 ?_
          obtain ⟨r_7, hg, hf⟩ := ob hf
          refine k_callVi (As := [.int v1_0, .int (0 : Int32)]) (rest := []) (ws2 := fun u => wModel k a_th th_2) (c_X9_loansOf n l k a_th th_2 v1_0 (0 : Int32) r_7 hg) E vl_X9_286 dX9_process_100 rfl [0, 1, 2, 3, 4, 5, 6, 7, 8, 9, 10, 11, 12] 7 0 hW hA hl rfl rfl rfl rfl ⟨by decide, by decide⟩ ⟨by decide, by decide⟩ (Nat.le_of_ble_eq_true rfl) rfl (fun _ => rfl) (fun _ => rfl) (fun r u H locs hp hW => ?_)
          cases hp
          have hW : WD k A s.heap (wModel k a_th th_2) H locs := hW
          exact hret _ th_2 _ _ _ _ _ _ hW (Option.some.inj hf).symm rfl (by decide) (by decide) dX9_process_103
        have hf := oF hc hf; have hn_4 := hc; clear hc
        by_cases hc : v2_0 = (5 : Int32)
        · have hf := oT hc hf
          refine lv_tableIn (off := (69)) (tgt := 104) E.hx E.hb dX9_process_35 (by rw [hc]; decide) (by rw [hc]; decide) (by rw [hc]; rfl) (by decide) ?_
          refine k_aload_n E hl 0 dX9_process_104 rfl ?_
          refine k_iload_n E hl 1 dX9_process_105 rfl ?_
          refine lv_iconst (v := (1 : Int32)) E.hx E.hb dX9_process_106 ic_1 ?_
          obtain ⟨r_8, hg, hf⟩ := ob hf
          refine k_callVi (As := [.int v1_0, .int (1 : Int32)]) (rest := []) (ws2 := fun u => wModel k a_th th_2) (c_X9_loansOf n l k a_th th_2 v1_0 (1 : Int32) r_8 hg) E vl_X9_286 dX9_process_107 rfl [0, 1, 2, 3, 4, 5, 6, 7, 8, 9, 10, 11, 12] 7 0 hW hA hl rfl rfl rfl rfl ⟨by decide, by decide⟩ ⟨by decide, by decide⟩ (Nat.le_of_ble_eq_true rfl) rfl (fun _ => rfl) (fun _ => rfl) (fun r u H locs hp hW => ?_)
          cases hp
          have hW : WD k A s.heap (wModel k a_th th_2) H locs := hW
          exact hret _ th_2 _ _ _ _ _ _ hW (Option.some.inj hf).symm rfl (by decide) (by decide) dX9_process_110
        have hf := oF hc hf; have hn_5 := hc; clear hc
        by_cases hc : v2_0 = (6 : Int32)
        · have hf := oT hc hf
          refine lv_tableIn (off := (76)) (tgt := 111) E.hx E.hb dX9_process_35 (by rw [hc]; decide) (by rw [hc]; decide) (by rw [hc]; rfl) (by decide) ?_
          refine k_aload_n E hl 0 dX9_process_111 rfl ?_
          refine k_iload_n E hl 1 dX9_process_112 rfl ?_
          obtain ⟨r_9, hg, hf⟩ := ob hf
          refine k_callVi (As := [.int v1_0]) (rest := []) (ws2 := fun u => wModel k a_th th_2) (c_X9_waitingOf n l k a_th th_2 v1_0 r_9 hg) E vl_X9_290 dX9_process_113 rfl [0, 1, 2, 3, 4, 5, 6, 7, 8, 9, 10, 11, 12] 7 0 hW hA hl rfl rfl rfl rfl ⟨by decide, by decide⟩ ⟨by decide, by decide⟩ (Nat.le_of_ble_eq_true rfl) rfl (fun _ => rfl) (fun _ => rfl) (fun r u H locs hp hW => ?_)
          cases hp
          have hW : WD k A s.heap (wModel k a_th th_2) H locs := hW
          exact hret _ th_2 _ _ _ _ _ _ hW (Option.some.inj hf).symm rfl (by decide) (by decide) dX9_process_116
        have hf := oF hc hf; have hn_6 := hc; clear hc
        by_cases hc : v2_0 = (7 : Int32)
        · have hf := oT hc hf
          refine lv_tableIn (off := (82)) (tgt := 117) E.hx E.hb dX9_process_35 (by rw [hc]; decide) (by rw [hc]; decide) (by rw [hc]; rfl) (by decide) ?_
          refine k_aload_n E hl 0 dX9_process_117 rfl ?_
          refine k_iload_n E hl 1 dX9_process_118 rfl ?_
          refine lv_iconst (v := (3 : Int32)) E.hx E.hb dX9_process_119 ic_3 ?_
          obtain ⟨r_10, hg, hf⟩ := ob hf
          refine k_callVi (As := [.int v1_0, .int (3 : Int32)]) (rest := []) (ws2 := fun u => wModel k a_th th_2) (c_X9_process0 n l k a_th th_2 v1_0 (3 : Int32) r_10 hg) E vl_X9_120 dX9_process_120 rfl [0, 1, 2, 3, 4, 5, 6, 7, 8, 9, 10, 11, 12] 7 0 hW hA hl rfl rfl rfl rfl ⟨by decide, by decide⟩ ⟨by decide, by decide⟩ (Nat.le_of_ble_eq_true rfl) rfl (fun _ => rfl) (fun _ => rfl) (fun r u H locs hp hW => ?_)
          cases hp
          have hW : WD k A s.heap (wModel k a_th th_2) H locs := hW
          exact hret _ th_2 _ _ _ _ _ _ hW (Option.some.inj hf).symm rfl (by decide) (by decide) dX9_process_123
        have hf := oF hc hf; have hn_7 := hc; clear hc
        have hc : v2_0 = (8 : Int32) := by
          apply Int32.toInt_inj.mp; rw [show ((8 : Int32)).toInt = 8 from by decide]
          have hn_0 : ¬ (v2_0).toInt = 0 := fun z => hn_0 (Int32.toInt_inj.mp (z.trans (show (0 : Int) = ((0 : Int32)).toInt from by decide)))
          have hn_1 : ¬ (v2_0).toInt = 1 := fun z => hn_1 (Int32.toInt_inj.mp (z.trans (show (1 : Int) = ((1 : Int32)).toInt from by decide)))
          have hn_2 : ¬ (v2_0).toInt = 2 := fun z => hn_2 (Int32.toInt_inj.mp (z.trans (show (2 : Int) = ((2 : Int32)).toInt from by decide)))
          have hn_3 : ¬ (v2_0).toInt = 3 := fun z => hn_3 (Int32.toInt_inj.mp (z.trans (show (3 : Int) = ((3 : Int32)).toInt from by decide)))
          have hn_4 : ¬ (v2_0).toInt = 4 := fun z => hn_4 (Int32.toInt_inj.mp (z.trans (show (4 : Int) = ((4 : Int32)).toInt from by decide)))
          have hn_5 : ¬ (v2_0).toInt = 5 := fun z => hn_5 (Int32.toInt_inj.mp (z.trans (show (5 : Int) = ((5 : Int32)).toInt from by decide)))
          have hn_6 : ¬ (v2_0).toInt = 6 := fun z => hn_6 (Int32.toInt_inj.mp (z.trans (show (6 : Int) = ((6 : Int32)).toInt from by decide)))
          have hn_7 : ¬ (v2_0).toInt = 7 := fun z => hn_7 (Int32.toInt_inj.mp (z.trans (show (7 : Int) = ((7 : Int32)).toInt from by decide)))
          omega
        refine lv_tableIn (off := (89)) (tgt := 124) E.hx E.hb dX9_process_35 (by rw [hc]; decide) (by rw [hc]; decide) (by rw [hc]; rfl) (by decide) ?_
        refine k_aload_n E hl 0 dX9_process_124 rfl ?_
        refine k_iload_n E hl 1 dX9_process_125 rfl ?_
        refine lv_iconst (v := (4 : Int32)) E.hx E.hb dX9_process_126 ic_4 ?_
        obtain ⟨r_11, hg, hf⟩ := ob hf
        refine k_callVi (As := [.int v1_0, .int (4 : Int32)]) (rest := []) (ws2 := fun u => wModel k a_th th_2) (c_X9_process0 n l k a_th th_2 v1_0 (4 : Int32) r_11 hg) E vl_X9_120 dX9_process_127 rfl [0, 1, 2, 3, 4, 5, 6, 7, 8, 9, 10, 11, 12] 7 0 hW hA hl rfl rfl rfl rfl ⟨by decide, by decide⟩ ⟨by decide, by decide⟩ (Nat.le_of_ble_eq_true rfl) rfl (fun _ => rfl) (fun _ => rfl) (fun r u H locs hp hW => ?_)
        cases hp
        have hW : WD k A s.heap (wModel k a_th th_2) H locs := hW
        exact hret _ th_2 _ _ _ _ _ _ hW (Option.some.inj hf).symm rfl (by decide) (by decide) dX9_process_130
    · have hf := oT hc hf
      refine lv_iconst (v := (0 : Int32)) E.hx E.hb dX9_process_32 ic_0 ?_
      exact hret _ th_2 _ _ _ _ _ _ hW (Option.some.inj hf).symm rfl (by decide) (by decide) dX9_process_33
  refine lv_if_eq (tgt := 25) E.hx E.hb dX9_process_6 (by decide) (fun hc => ?_) (fun hc => ?_)
  · have hf := oT hc hf
    refine lv_iconst (v := (0 : Int32)) E.hx E.hb dX9_process_25 ic_0 ?_
    exact J_26 th_0 (0 : Int32) _ _ _ hW (lv_sub hl [0, 1, 2] rfl) hf
  · have hf := oF hc hf
    refine k_iload_n E hl 2 dX9_process_9 rfl ?_
    refine lv_i2l (v := (v2_0).toInt64) E.hx E.hb dX9_process_10 rfl ?_
    refine lv_lconst (v := (0 : Int64)) E.hx E.hb dX9_process_11 (by decide) ?_
    refine lv_ldc2 E.hx E.hb E.ho (E.w tm_1692 rfl) dX9_process_12 ?_
    obtain ⟨r_12, hg, hf⟩ := ob hf
    refine k_callSi (As := [.long ((v2_0).toInt64), .long (0 : Int64), .long (9 : Int64)]) (rest := [.ref (a_th 0)]) (ws2 := fun u => wModel k a_th th_0) (c_X9_isIn n l k ((v2_0).toInt64) (0 : Int64) (9 : Int64) r_12 hg) E sl_X9_92 dX9_process_15 rfl [] hW hA hl rfl rfl ⟨by decide, by decide⟩ ⟨by decide, by decide⟩ (Nat.le_of_ble_eq_true rfl) rfl (fun _ => rfl) (fun _ => rfl) (fun r u H locs hp hW => ?_)
    cases hp
    have hW : WD k A s.heap (wModel k a_th th_0) H locs := hW
    refine lv_if_eq (tgt := 25) E.hx E.hb dX9_process_18 (by decide) (fun hc => ?_) (fun hc => ?_)
    · have hf := oT hc hf
      refine lv_iconst (v := (0 : Int32)) E.hx E.hb dX9_process_25 ic_0 ?_
      exact J_26 th_0 (0 : Int32) _ _ _ hW (lv_sub hl [0, 1, 2] rfl) hf
    · have hf := oF hc hf
      refine lv_iconst (v := (1 : Int32)) E.hx E.hb dX9_process_21 ic_1 ?_
      refine lv_goto (tgt := 26) E.hx E.hb dX9_process_22 (by decide) ?_
      exact J_26 th_0 (1 : Int32) _ _ _ hW (lv_sub hl [0, 1, 2] rfl) hf
def j_X9_loan_26 (n : Nat) (v1_0 : Int32) (v2_0 : Int32) (th_j26 : OS) (s1_j26 : Int32) : Option (OS × Int32) :=
  bnd2 (f_X9_is n th_j26 s1_j26) (fun (th_2 : OS) (r_3 : Int32) =>
  if r_3 = 0 then (
  some (th_2, (0 : Int32))) else (
  if (v2_0).toInt < 0 ∨ 6 < (v2_0).toInt then (
  bnd (f_X9_loan0 n th_2 v1_0 (5 : Int32)) (fun (r_4 : Int32) =>
  some (th_2, r_4))) else (if v2_0 = (0 : Int32) then (
  bnd (f_X9_loan0 n th_2 v1_0 (0 : Int32)) (fun (r_5 : Int32) =>
  some (th_2, r_5))) else (if v2_0 = (1 : Int32) then (
  bnd (f_X9_pagesOf n th_2 v1_0) (fun (r_6 : Int32) =>
  some (th_2, r_6))) else (if v2_0 = (2 : Int32) then (
  bnd (f_X9_loan0 n th_2 v1_0 (1 : Int32)) (fun (r_7 : Int32) =>
  some (th_2, r_7))) else (if v2_0 = (3 : Int32) then (
  bnd (f_X9_loan0 n th_2 v1_0 (2 : Int32)) (fun (r_8 : Int32) =>
  some (th_2, r_8))) else (if v2_0 = (4 : Int32) then (
  bnd (f_X9_loan0 n th_2 v1_0 (3 : Int32)) (fun (r_9 : Int32) =>
  some (th_2, r_9))) else (if v2_0 = (5 : Int32) then (
  bnd (f_X9_isBrokenLoan n th_2 v1_0) (fun (r_10 : Int32) =>
  if r_10 = 0 then (
  some (th_2, (0 : Int32))) else (
  some (th_2, (1 : Int32))))) else (bnd (f_X9_loan0 n th_2 v1_0 (4 : Int32)) (fun (r_11 : Int32) =>
  some (th_2, r_11)))))))))))
def f_X9_loan (n : Nat) (th_0 : OS) (v1_0 : Int32) (v2_0 : Int32) : Option (OS × Int32) :=
  bnd (f_X9_isLoan n th_0 v1_0) (fun (r_1 : Int32) =>
  if r_1 = 0 then (
  j_X9_loan_26 n v1_0 v2_0 th_0 (0 : Int32)) else (
  bnd (f_X9_isIn n ((v2_0).toInt64) (0 : Int64) (7 : Int64)) (fun (r_12 : Int32) =>
  if r_12 = 0 then (
  j_X9_loan_26 n v1_0 v2_0 th_0 (0 : Int32)) else (
  j_X9_loan_26 n v1_0 v2_0 th_0 (1 : Int32)))))
set_option maxHeartbeats 4000000 in
set_option maxRecDepth 100000 in
theorem c_X9_loan (n : Nat) (l : Launch) (k : KT) (a_th : Nat → Nat) (th_0 : OS) (v1_0 : Int32) (v2_0 : Int32) (res : (OS × Int32)) (hf : f_X9_loan n th_0 v1_0 v2_0 = some res) : CG l k yX9_loan cX9_loan 3 (some .int) 2 0 0 46 [.ref (a_th 0), .int v1_0, .int v2_0] (wModel k a_th th_0) (Qi k (fun u : OS => wModel k a_th u) (fun (r : Int32) (u : OS) => res = (u, r))) := by
  refine CG.ofI (by decide) (Nat.le_of_ble_eq_true rfl) (fun p e s m args below meth c A Q E hnm hW hA hret ls hl => ?_)
  have hl : lv_has ls 3 [(0, .ref (a_th 0)), (1, .int v1_0), (2, .int v2_0)] := hl
  unfold f_X9_loan at hf
  refine k_aload_n E hl 0 dX9_loan_0 rfl ?_
  refine k_aload_n E hl 0 dX9_loan_1 rfl ?_
  refine k_iload_n E hl 1 dX9_loan_2 rfl ?_
  obtain ⟨r_1, hg, hf⟩ := ob hf
  refine k_callVi (As := [.int v1_0]) (rest := [.ref (a_th 0)]) (ws2 := fun u => wModel k a_th th_0) (c_X9_isLoan n l k a_th th_0 v1_0 r_1 hg) E vl_X9_235 dX9_loan_3 rfl [0, 1, 2, 3, 4, 5, 6, 7, 8, 9, 10, 11, 12] 7 0 hW hA hl rfl rfl rfl rfl ⟨by decide, by decide⟩ ⟨by decide, by decide⟩ (Nat.le_of_ble_eq_true rfl) rfl (fun _ => rfl) (fun _ => rfl) (fun r u H locs hp hW => ?_)
  cases hp
  have hW : WD k A s.heap (wModel k a_th th_0) H locs := hW
  have J_26 : ∀ (th_j26 : OS) (s1_j26 : Int32) (H : Heap) (locs : List Loc) (ls : Array Slot) (hW : WD k A s.heap (wModel k a_th th_j26) H locs) (hl : lv_has ls 3 [(0, .ref (a_th 0)), (1, .int v1_0), (2, .int v2_0)]) (hf : j_X9_loan_26 n v1_0 v2_0 th_j26 s1_j26 = some res), W p l e { frames := 2, cells := 0, slots := 0, locals := 46 } s m args below meth c H locs 0 0 Q (F0 m 26 ls [.int s1_j26, .ref (a_th 0)]) := by
    intro th_j26 s1_j26 H locs ls hW hl hf
    unfold j_X9_loan_26 at hf
    obtain ⟨th_2, r_3, hg, hf⟩ := ob2 hf
    refine k_callVi (As := [.int s1_j26]) (rest := []) (ws2 := fun u => wModel k a_th (u)) (c_X9_is n l k a_th th_j26 s1_j26 (th_2, r_3) hg) E vl_X9_77 dX9_loan_26 rfl [0, 1, 2, 3, 4, 5, 6, 7, 8, 9, 10, 11, 12] 7 0 hW hA hl rfl rfl rfl rfl ⟨by decide, by decide⟩ ⟨by decide, by decide⟩ (Nat.le_of_ble_eq_true rfl) rfl (fun _ => rfl) (fun _ => rfl) (fun r u H locs hp hW => ?_)
    cases hp
    have hW : WD k A s.heap (wModel k a_th th_2) H locs := hW
    refine lv_if_ne (tgt := 34) E.hx E.hb dX9_loan_29 (by decide) (fun hc => ?_) (fun hc => ?_)
    · have hf := oF hc hf
      refine k_iload_n E hl 2 dX9_loan_34 rfl ?_
      by_cases hsw : (v2_0).toInt < 0 ∨ 6 < (v2_0).toInt
      · have hf := oT hsw hf
        refine lv_tableOut (tgt := 131) E.hx E.hb dX9_loan_35 hsw (by decide) ?_
        refine k_aload_n E hl 0 dX9_loan_131 rfl ?_
        refine k_iload_n E hl 1 dX9_loan_132 rfl ?_
        refine lv_iconst (v := (5 : Int32)) E.hx E.hb dX9_loan_133 ic_5 ?_
        obtain ⟨r_4, hg, hf⟩ := ob hf
        refine k_callVi (As := [.int v1_0, .int (5 : Int32)]) (rest := []) (ws2 := fun u => wModel k a_th th_2) (c_X9_loan0 n l k a_th th_2 v1_0 (5 : Int32) r_4 hg) E vl_X9_106 dX9_loan_134 rfl [0, 1, 2, 3, 4, 5, 6, 7, 8, 9, 10, 11, 12] 7 0 hW hA hl rfl rfl rfl rfl ⟨by decide, by decide⟩ ⟨by decide, by decide⟩ (Nat.le_of_ble_eq_true rfl) rfl (fun _ => rfl) (fun _ => rfl) (fun r u H locs hp hW => ?_)
        cases hp
        have hW : WD k A s.heap (wModel k a_th th_2) H locs := hW
        exact hret _ th_2 _ _ _ _ _ _ hW (Option.some.inj hf).symm rfl (by decide) (by decide) dX9_loan_137
      · have hf := oF hsw hf
        by_cases hc : v2_0 = (0 : Int32)
        · have hf := oT hc hf
          refine lv_tableIn (off := (41)) (tgt := 76) E.hx E.hb dX9_loan_35 (by rw [hc]; decide) (by rw [hc]; decide) (by rw [hc]; rfl) (by decide) ?_
          refine k_aload_n E hl 0 dX9_loan_76 rfl ?_
          refine k_iload_n E hl 1 dX9_loan_77 rfl ?_
          refine lv_iconst (v := (0 : Int32)) E.hx E.hb dX9_loan_78 ic_0 ?_
          obtain ⟨r_5, hg, hf⟩ := ob hf
          refine k_callVi (As := [.int v1_0, .int (0 : Int32)]) (rest := []) (ws2 := fun u => wModel k a_th th_2) (c_X9_loan0 n l k a_th th_2 v1_0 (0 : Int32) r_5 hg) E vl_X9_106 dX9_loan_79 rfl [0, 1, 2, 3, 4, 5, 6, 7, 8, 9, 10, 11, 12] 7 0 hW hA hl rfl rfl rfl rfl ⟨by decide, by decide⟩ ⟨by decide, by decide⟩ (Nat.le_of_ble_eq_true rfl) rfl (fun _ => rfl) (fun _ => rfl) (fun r u H locs hp hW => ?_)
          cases hp
          have hW : WD k A s.heap (wModel k a_th th_2) H locs := hW
          exact hret _ th_2 _ _ _ _ _ _ hW (Option.some.inj hf).symm rfl (by decide) (by decide) dX9_loan_82
        have hf := oF hc hf; have hn_0 := hc; clear hc
        by_cases hc : v2_0 = (1 : Int32)
        · have hf := oT hc hf
          refine lv_tableIn (off := (48)) (tgt := 83) E.hx E.hb dX9_loan_35 (by rw [hc]; decide) (by rw [hc]; decide) (by rw [hc]; rfl) (by decide) ?_
          refine k_aload_n E hl 0 dX9_loan_83 rfl ?_
          refine k_iload_n E hl 1 dX9_loan_84 rfl ?_
          obtain ⟨r_6, hg, hf⟩ := ob hf
          refine k_callVi (As := [.int v1_0]) (rest := []) (ws2 := fun u => wModel k a_th th_2) (c_X9_pagesOf n l k a_th th_2 v1_0 r_6 hg) E vl_X9_103 dX9_loan_85 rfl [0, 1, 2, 3, 4, 5, 6, 7, 8, 9, 10, 11, 12] 7 0 hW hA hl rfl rfl rfl rfl ⟨by decide, by decide⟩ ⟨by decide, by decide⟩ (Nat.le_of_ble_eq_true rfl) rfl (fun _ => rfl) (fun _ => rfl) (fun r u H locs hp hW => ?_)
          cases hp
          have hW : WD k A s.heap (wModel k a_th th_2) H locs := hW
          exact hret _ th_2 _ _ _ _ _ _ hW (Option.some.inj hf).symm rfl (by decide) (by decide) dX9_loan_88
        have hf := oF hc hf; have hn_1 := hc; clear hc
        by_cases hc : v2_0 = (2 : Int32)
        · have hf := oT hc hf
          refine lv_tableIn (off := (54)) (tgt := 89) E.hx E.hb dX9_loan_35 (by rw [hc]; decide) (by rw [hc]; decide) (by rw [hc]; rfl) (by decide) ?_
          refine k_aload_n E hl 0 dX9_loan_89 rfl ?_
          refine k_iload_n E hl 1 dX9_loan_90 rfl ?_
          refine lv_iconst (v := (1 : Int32)) E.hx E.hb dX9_loan_91 ic_1 ?_
          obtain ⟨r_7, hg, hf⟩ := ob hf
          refine k_callVi (As := [.int v1_0, .int (1 : Int32)]) (rest := []) (ws2 := fun u => wModel k a_th th_2) (c_X9_loan0 n l k a_th th_2 v1_0 (1 : Int32) r_7 hg) E vl_X9_106 dX9_loan_92 rfl [0, 1, 2, 3, 4, 5, 6, 7, 8, 9, 10, 11, 12] 7 0 hW hA hl rfl rfl rfl rfl ⟨by decide, by decide⟩ ⟨by decide, by decide⟩ (Nat.le_of_ble_eq_true rfl) rfl (fun _ => rfl) (fun _ => rfl) (fun r u H locs hp hW => ?_)
          cases hp
          have hW : WD k A s.heap (wModel k a_th th_2) H locs := hW
          exact hret _ th_2 _ _ _ _ _ _ hW (Option.some.inj hf).symm rfl (by decide) (by decide) dX9_loan_95
        have hf := oF hc hf; have hn_2 := hc; clear hc
        by_cases hc : v2_0 = (3 : Int32)
        · have hf := oT hc hf
          refine lv_tableIn (off := (61)) (tgt := 96) E.hx E.hb dX9_loan_35 (by rw [hc]; decide) (by rw [hc]; decide) (by rw [hc]; rfl) (by decide) ?_
          refine k_aload_n E hl 0 dX9_loan_96 rfl ?_
          refine k_iload_n E hl 1 dX9_loan_97 rfl ?_
          refine lv_iconst (v := (2 : Int32)) E.hx E.hb dX9_loan_98 ic_2 ?_
          obtain ⟨r_8, hg, hf⟩ := ob hf
          refine k_callVi (As := [.int v1_0, .int (2 : Int32)]) (rest := []) (ws2 := fun u => wModel k a_th th_2) (c_X9_loan0 n l k a_th th_2 v1_0 (2 : Int32) r_8 hg) E vl_X9_106 dX9_loan_99 rfl [0, 1, 2, 3, 4, 5, 6, 7, 8, 9, 10, 11, 12] 7 0 hW hA hl rfl rfl rfl rfl ⟨by decide, by decide⟩ ⟨by decide, by decide⟩ (Nat.le_of_ble_eq_true rfl) rfl (fun _ => rfl) (fun _ => rfl) (fun r u H locs hp hW => ?_)
          cases hp
          have hW : WD k A s.heap (wModel k a_th th_2) H locs := hW
          exact hret _ th_2 _ _ _ _ _ _ hW (Option.some.inj hf).symm rfl (by decide) (by decide) dX9_loan_102
        have hf := oF hc hf; have hn_3 := hc; clear hc
        by_cases hc : v2_0 = (4 : Int32)
        · have hf := oT hc hf
          refine lv_tableIn (off := (68)) (tgt := 103) E.hx E.hb dX9_loan_35 (by rw [hc]; decide) (by rw [hc]; decide) (by rw [hc]; rfl) (by decide) ?_
          refine k_aload_n E hl 0 dX9_loan_103 rfl ?_
          refine k_iload_n E hl 1 dX9_loan_104 rfl ?_
          refine lv_iconst (v := (3 : Int32)) E.hx E.hb dX9_loan_105 ic_3 ?_
          obtain ⟨r_9, hg, hf⟩ := ob hf
          refine k_callVi (As := [.int v1_0, .int (3 : Int32)]) (rest := []) (ws2 := fun u => wModel k a_th th_2) (c_X9_loan0 n l k a_th th_2 v1_0 (3 : Int32) r_9 hg) E vl_X9_106 dX9_loan_106 rfl [0, 1, 2, 3, 4, 5, 6, 7, 8, 9, 10, 11, 12] 7 0 hW hA hl rfl rfl rfl rfl ⟨by decide, by decide⟩ ⟨by decide, by decide⟩ (Nat.le_of_ble_eq_true rfl) rfl (fun _ => rfl) (fun _ => rfl) (fun r u H locs hp hW => ?_)
          cases hp
          have hW : WD k A s.heap (wModel k a_th th_2) H locs := hW
          exact hret _ th_2 _ _ _ _ _ _ hW (Option.some.inj hf).symm rfl (by decide) (by decide) dX9_loan_109
        have hf := oF hc hf; have hn_4 := hc; clear hc
        by_cases hc : v2_0 = (5 : Int32)
        · have hf := oT hc hf
          refine lv_tableIn (off := (75)) (tgt := 110) E.hx E.hb dX9_loan_35 (by rw [hc]; decide) (by rw [hc]; decide) (by rw [hc]; rfl) (by decide) ?_
          refine k_aload_n E hl 0 dX9_loan_110 rfl ?_
          refine k_iload_n E hl 1 dX9_loan_111 rfl ?_
          obtain ⟨r_10, hg, hf⟩ := ob hf
          refine k_callVi (As := [.int v1_0]) (rest := []) (ws2 := fun u => wModel k a_th th_2) (c_X9_isBrokenLoan n l k a_th th_2 v1_0 r_10 hg) E vl_X9_109 dX9_loan_112 rfl [0, 1, 2, 3, 4, 5, 6, 7, 8, 9, 10, 11, 12] 7 0 hW hA hl rfl rfl rfl rfl ⟨by decide, by decide⟩ ⟨by decide, by decide⟩ (Nat.le_of_ble_eq_true rfl) rfl (fun _ => rfl) (fun _ => rfl) (fun r u H locs hp hW => ?_)
          cases hp
          have hW : WD k A s.heap (wModel k a_th th_2) H locs := hW
          refine lv_if_eq (tgt := 122) E.hx E.hb dX9_loan_115 (by decide) (fun hc => ?_) (fun hc => ?_)
          · have hf := oT hc hf
            refine lv_iconst (v := (0 : Int32)) E.hx E.hb dX9_loan_122 ic_0 ?_
            exact hret _ th_2 _ _ _ _ _ _ hW (Option.some.inj hf).symm rfl (by decide) (by decide) dX9_loan_123
          · have hf := oF hc hf
            refine lv_iconst (v := (1 : Int32)) E.hx E.hb dX9_loan_118 ic_1 ?_
            refine lv_goto (tgt := 123) E.hx E.hb dX9_loan_119 (by decide) ?_
            exact hret _ th_2 _ _ _ _ _ _ hW (Option.some.inj hf).symm rfl (by decide) (by decide) dX9_loan_123
        have hf := oF hc hf; have hn_5 := hc; clear hc
        have hc : v2_0 = (6 : Int32) := by
          apply Int32.toInt_inj.mp; rw [show ((6 : Int32)).toInt = 6 from by decide]
          have hn_0 : ¬ (v2_0).toInt = 0 := fun z => hn_0 (Int32.toInt_inj.mp (z.trans (show (0 : Int) = ((0 : Int32)).toInt from by decide)))
          have hn_1 : ¬ (v2_0).toInt = 1 := fun z => hn_1 (Int32.toInt_inj.mp (z.trans (show (1 : Int) = ((1 : Int32)).toInt from by decide)))
          have hn_2 : ¬ (v2_0).toInt = 2 := fun z => hn_2 (Int32.toInt_inj.mp (z.trans (show (2 : Int) = ((2 : Int32)).toInt from by decide)))
          have hn_3 : ¬ (v2_0).toInt = 3 := fun z => hn_3 (Int32.toInt_inj.mp (z.trans (show (3 : Int) = ((3 : Int32)).toInt from by decide)))
          have hn_4 : ¬ (v2_0).toInt = 4 := fun z => hn_4 (Int32.toInt_inj.mp (z.trans (show (4 : Int) = ((4 : Int32)).toInt from by decide)))
          have hn_5 : ¬ (v2_0).toInt = 5 := fun z => hn_5 (Int32.toInt_inj.mp (z.trans (show (5 : Int) = ((5 : Int32)).toInt from by decide)))
          omega
        refine lv_tableIn (off := (89)) (tgt := 124) E.hx E.hb dX9_loan_35 (by rw [hc]; decide) (by rw [hc]; decide) (by rw [hc]; rfl) (by decide) ?_
        refine k_aload_n E hl 0 dX9_loan_124 rfl ?_
        refine k_iload_n E hl 1 dX9_loan_125 rfl ?_
        refine lv_iconst (v := (4 : Int32)) E.hx E.hb dX9_loan_126 ic_4 ?_
        obtain ⟨r_11, hg, hf⟩ := ob hf
        refine k_callVi (As := [.int v1_0, .int (4 : Int32)]) (rest := []) (ws2 := fun u => wModel k a_th th_2) (c_X9_loan0 n l k a_th th_2 v1_0 (4 : Int32) r_11 hg) E vl_X9_106 dX9_loan_127 rfl [0, 1, 2, 3, 4, 5, 6, 7, 8, 9, 10, 11, 12] 7 0 hW hA hl rfl rfl rfl rfl ⟨by decide, by decide⟩ ⟨by decide, by decide⟩ (Nat.le_of_ble_eq_true rfl) rfl (fun _ => rfl) (fun _ => rfl) (fun r u H locs hp hW => ?_)
        cases hp
        have hW : WD k A s.heap (wModel k a_th th_2) H locs := hW
        exact hret _ th_2 _ _ _ _ _ _ hW (Option.some.inj hf).symm rfl (by decide) (by decide) dX9_loan_130
    · have hf := oT hc hf
      refine lv_iconst (v := (0 : Int32)) E.hx E.hb dX9_loan_32 ic_0 ?_
      exact hret _ th_2 _ _ _ _ _ _ hW (Option.some.inj hf).symm rfl (by decide) (by decide) dX9_loan_33
  refine lv_if_eq (tgt := 25) E.hx E.hb dX9_loan_6 (by decide) (fun hc => ?_) (fun hc => ?_)
  · have hf := oT hc hf
    refine lv_iconst (v := (0 : Int32)) E.hx E.hb dX9_loan_25 ic_0 ?_
    exact J_26 th_0 (0 : Int32) _ _ _ hW (lv_sub hl [0, 1, 2] rfl) hf
  · have hf := oF hc hf
    refine k_iload_n E hl 2 dX9_loan_9 rfl ?_
    refine lv_i2l (v := (v2_0).toInt64) E.hx E.hb dX9_loan_10 rfl ?_
    refine lv_lconst (v := (0 : Int64)) E.hx E.hb dX9_loan_11 (by decide) ?_
    refine lv_ldc2 E.hx E.hb E.ho (E.w tm_1709 rfl) dX9_loan_12 ?_
    obtain ⟨r_12, hg, hf⟩ := ob hf
    refine k_callSi (As := [.long ((v2_0).toInt64), .long (0 : Int64), .long (7 : Int64)]) (rest := [.ref (a_th 0)]) (ws2 := fun u => wModel k a_th th_0) (c_X9_isIn n l k ((v2_0).toInt64) (0 : Int64) (7 : Int64) r_12 hg) E sl_X9_92 dX9_loan_15 rfl [] hW hA hl rfl rfl ⟨by decide, by decide⟩ ⟨by decide, by decide⟩ (Nat.le_of_ble_eq_true rfl) rfl (fun _ => rfl) (fun _ => rfl) (fun r u H locs hp hW => ?_)
    cases hp
    have hW : WD k A s.heap (wModel k a_th th_0) H locs := hW
    refine lv_if_eq (tgt := 25) E.hx E.hb dX9_loan_18 (by decide) (fun hc => ?_) (fun hc => ?_)
    · have hf := oT hc hf
      refine lv_iconst (v := (0 : Int32)) E.hx E.hb dX9_loan_25 ic_0 ?_
      exact J_26 th_0 (0 : Int32) _ _ _ hW (lv_sub hl [0, 1, 2] rfl) hf
    · have hf := oF hc hf
      refine lv_iconst (v := (1 : Int32)) E.hx E.hb dX9_loan_21 ic_1 ?_
      refine lv_goto (tgt := 26) E.hx E.hb dX9_loan_22 (by decide) ?_
      exact J_26 th_0 (1 : Int32) _ _ _ hW (lv_sub hl [0, 1, 2] rfl) hf
def f_X9_page (n : Nat) (th_0 : OS) (v1_0 : Int32) : Option (OS × Int32) :=
  bnd (f_X9_isIn n ((v1_0).toInt64) (0 : Int64) ((((th_0.1 1) - (1 : Int32))).toInt64)) (fun (r_1 : Int32) =>
  bnd2 (f_X9_is n th_0 r_1) (fun (th_2 : OS) (r_3 : Int32) =>
  if r_3 = 0 then (
  some (th_2, (0 : Int32))) else (
  gI 1846 ((538 : Int32) + v1_0) (Let ((th_2.2.1 9) ((538 : Int32) + v1_0).toNatClampNeg) (fun x_4 : Int32 =>
  some (th_2, x_4))))))
set_option maxHeartbeats 4000000 in
set_option maxRecDepth 100000 in
theorem c_X9_page (n : Nat) (l : Launch) (k : KT) (a_th : Nat → Nat) (th_0 : OS) (v1_0 : Int32) (res : (OS × Int32)) (hf : f_X9_page n th_0 v1_0 = some res) : CG l k yX9_page cX9_page 2 (some .int) 1 0 0 25 [.ref (a_th 0), .int v1_0] (wModel k a_th th_0) (Qi k (fun u : OS => wModel k a_th u) (fun (r : Int32) (u : OS) => res = (u, r))) := by
  refine CG.ofI (by decide) (Nat.le_of_ble_eq_true rfl) (fun p e s m args below meth c A Q E hnm hW hA hret ls hl => ?_)
  have hl : lv_has ls 2 [(0, .ref (a_th 0)), (1, .int v1_0)] := hl
  unfold f_X9_page at hf
  refine k_aload_n E hl 0 dX9_page_0 rfl ?_
  refine k_iload_n E hl 1 dX9_page_1 rfl ?_
  refine lv_i2l (v := (v1_0).toInt64) E.hx E.hb dX9_page_2 rfl ?_
  refine lv_lconst (v := (0 : Int64)) E.hx E.hb dX9_page_3 (by decide) ?_
  refine k_aload_n E hl 0 dX9_page_4 rfl ?_
  refine gf_X9_100 E hW 0 rfl rfl dX9_page_5 ?_
  refine lv_iconst (v := (1 : Int32)) E.hx E.hb dX9_page_8 ic_1 ?_
  refine lv_isub E.hx E.hb dX9_page_9 ?_
  refine lv_i2l (v := (((th_0.1 1) - (1 : Int32))).toInt64) E.hx E.hb dX9_page_10 rfl ?_
  obtain ⟨r_1, hg, hf⟩ := ob hf
  refine k_callSi (As := [.long ((v1_0).toInt64), .long (0 : Int64), .long ((((th_0.1 1) - (1 : Int32))).toInt64)]) (rest := [.ref (a_th 0)]) (ws2 := fun u => wModel k a_th th_0) (c_X9_isIn n l k ((v1_0).toInt64) (0 : Int64) ((((th_0.1 1) - (1 : Int32))).toInt64) r_1 hg) E sl_X9_92 dX9_page_11 rfl [] hW hA hl rfl rfl ⟨by decide, by decide⟩ ⟨by decide, by decide⟩ (Nat.le_of_ble_eq_true rfl) rfl (fun _ => rfl) (fun _ => rfl) (fun r u H locs hp hW => ?_)
  cases hp
  have hW : WD k A s.heap (wModel k a_th th_0) H locs := hW
  obtain ⟨th_2, r_3, hg, hf⟩ := ob2 hf
  refine k_callVi (As := [.int r_1]) (rest := []) (ws2 := fun u => wModel k a_th (u)) (c_X9_is n l k a_th th_0 r_1 (th_2, r_3) hg) E vl_X9_77 dX9_page_14 rfl [0, 1, 2, 3, 4, 5, 6, 7, 8, 9, 10, 11, 12] 7 0 hW hA hl rfl rfl rfl rfl ⟨by decide, by decide⟩ ⟨by decide, by decide⟩ (Nat.le_of_ble_eq_true rfl) rfl (fun _ => rfl) (fun _ => rfl) (fun r u H locs hp hW => ?_)
  cases hp
  have hW : WD k A s.heap (wModel k a_th th_2) H locs := hW
  refine lv_if_eq (tgt := 33) E.hx E.hb dX9_page_17 (by decide) (fun hc => ?_) (fun hc => ?_)
  · have hf := oT hc hf
    refine lv_iconst (v := (0 : Int32)) E.hx E.hb dX9_page_33 ic_0 ?_
    exact hret _ th_2 _ _ _ _ _ _ hW (Option.some.inj hf).symm rfl (by decide) (by decide) dX9_page_34
  · have hf := oF hc hf
    refine k_aload_n E hl 0 dX9_page_20 rfl ?_
    refine gf_X9_13 E hW 0 rfl rfl dX9_page_21 ?_
    refine lv_sipush (v := (538 : Int32)) E.hx E.hb dX9_page_24 sp_538 ?_
    refine k_iload_n E hl 1 dX9_page_27 rfl ?_
    refine lv_iadd E.hx E.hb dX9_page_28 ?_
    obtain ⟨hin, hf⟩ := oI hf
    obtain ⟨x_4, ex_4, hf⟩ := oL hf
    refine k_iald E hW 2 rfl hin dX9_page_29 ?_
    refine k_topi ex_4 ?_
    refine lv_goto (tgt := 34) E.hx E.hb dX9_page_30 (by decide) ?_
    exact hret _ th_2 _ _ _ _ _ _ hW (Option.some.inj hf).symm rfl (by decide) (by decide) dX9_page_34
def j_X9_pageOf_60 (n : Nat) (w1_j41 : Int32) (rc_41 : (OS) → (Int32) → (Int32) → Option (OS × Int32)) (th_j60 : OS) (w3_j60 : Int32) (w4_j60 : Int32) : Option (OS × Int32) :=
  gI 1846 ((538 : Int32) + w4_j60) (Let ((th_j60.2.1 9) ((538 : Int32) + w4_j60).toNatClampNeg) (fun x_9 : Int32 =>
  if x_9 = w1_j41 then (
  Let (w3_j60 - (1 : Int32)) (fun v3_11 : Int32 =>
  Let (w4_j60 + (1 : Int32)) (fun v4_12 : Int32 =>
  rc_41 th_j60 v3_11 v4_12))) else (
  Let (w4_j60 + (1 : Int32)) (fun v4_10 : Int32 =>
  rc_41 th_j60 w3_j60 v4_10))))
def s_X9_pageOf_41 (n : Nat) (w1_j41 : Int32) (rc_41 : (OS) → (Int32) → (Int32) → Option (OS × Int32)) (th_j41 : OS) (w3_j41 : Int32) (w4_j41 : Int32) : Option (OS × Int32) :=
  gI 1846 ((538 : Int32) + w4_j41) (Let ((th_j41.2.1 9) ((538 : Int32) + w4_j41).toNatClampNeg) (fun x_8 : Int32 =>
  if x_8 = w1_j41 then (
  if w3_j41 ≤ 0 then (
  some (th_j41, w4_j41)) else (
  j_X9_pageOf_60 n w1_j41 rc_41 th_j41 w3_j41 w4_j41)) else (
  j_X9_pageOf_60 n w1_j41 rc_41 th_j41 w3_j41 w4_j41)))
def l_X9_pageOf_41 (n : Nat) (w1_j41 : Int32) : Nat → (OS) → (Int32) → (Int32) → Option (OS × Int32)
  | 0 => fun _ _ _ => none
  | N + 1 => s_X9_pageOf_41 n w1_j41 (l_X9_pageOf_41 n w1_j41 N)
def f_X9_pageOf (n : Nat) (th_0 : OS) (v1_0 : Int32) (v2_0 : Int32) : Option (OS × Int32) :=
  bnd (f_X9_isLoan n th_0 v1_0) (fun (r_1 : Int32) =>
  bnd2 (f_X9_is n th_0 r_1) (fun (th_2 : OS) (r_3 : Int32) =>
  if r_3 = 0 then (
  some (th_2, (0 : Int32))) else (
  bnd (f_X9_pagesOf n th_2 v1_0) (fun (r_4 : Int32) =>
  bnd (f_X9_isIn n ((v2_0).toInt64) (0 : Int64) (((r_4 - (1 : Int32))).toInt64)) (fun (r_5 : Int32) =>
  bnd2 (f_X9_may n th_2 r_5 (2 : Int32)) (fun (th_6 : OS) (r_7 : Int32) =>
  if r_7 = 0 then (
  some (th_6, (0 : Int32))) else (
  l_X9_pageOf_41 n v1_0 n th_6 v2_0 (0 : Int32))))))))
set_option maxHeartbeats 4000000 in
set_option maxRecDepth 100000 in
theorem c_X9_pageOf (n : Nat) (l : Launch) (k : KT) (a_th : Nat → Nat) (th_0 : OS) (v1_0 : Int32) (v2_0 : Int32) (res : (OS × Int32)) (hf : f_X9_pageOf n th_0 v1_0 v2_0 = some res) : CG l k yX9_pageOf cX9_pageOf 5 (some .int) 2 0 0 46 [.ref (a_th 0), .int v1_0, .int v2_0] (wModel k a_th th_0) (Qi k (fun u : OS => wModel k a_th u) (fun (r : Int32) (u : OS) => res = (u, r))) := by
  refine CG.ofI (by decide) (Nat.le_of_ble_eq_true rfl) (fun p e s m args below meth c A Q E hnm hW hA hret ls hl => ?_)
  have hl : lv_has ls 5 [(0, .ref (a_th 0)), (1, .int v1_0), (2, .int v2_0)] := hl
  unfold f_X9_pageOf at hf
  refine k_aload_n E hl 0 dX9_pageOf_0 rfl ?_
  refine k_aload_n E hl 0 dX9_pageOf_1 rfl ?_
  refine k_iload_n E hl 1 dX9_pageOf_2 rfl ?_
  obtain ⟨r_1, hg, hf⟩ := ob hf
  refine k_callVi (As := [.int v1_0]) (rest := [.ref (a_th 0)]) (ws2 := fun u => wModel k a_th th_0) (c_X9_isLoan n l k a_th th_0 v1_0 r_1 hg) E vl_X9_235 dX9_pageOf_3 rfl [0, 1, 2, 3, 4, 5, 6, 7, 8, 9, 10, 11, 12] 7 0 hW hA hl rfl rfl rfl rfl ⟨by decide, by decide⟩ ⟨by decide, by decide⟩ (Nat.le_of_ble_eq_true rfl) rfl (fun _ => rfl) (fun _ => rfl) (fun r u H locs hp hW => ?_)
  cases hp
  have hW : WD k A s.heap (wModel k a_th th_0) H locs := hW
  obtain ⟨th_2, r_3, hg, hf⟩ := ob2 hf
  refine k_callVi (As := [.int r_1]) (rest := []) (ws2 := fun u => wModel k a_th (u)) (c_X9_is n l k a_th th_0 r_1 (th_2, r_3) hg) E vl_X9_77 dX9_pageOf_6 rfl [0, 1, 2, 3, 4, 5, 6, 7, 8, 9, 10, 11, 12] 7 0 hW hA hl rfl rfl rfl rfl ⟨by decide, by decide⟩ ⟨by decide, by decide⟩ (Nat.le_of_ble_eq_true rfl) rfl (fun _ => rfl) (fun _ => rfl) (fun r u H locs hp hW => ?_)
  cases hp
  have hW : WD k A s.heap (wModel k a_th th_2) H locs := hW
  refine lv_if_eq (tgt := 34) E.hx E.hb dX9_pageOf_9 (by decide) (fun hc => ?_) (fun hc => ?_)
  · have hf := oT hc hf
    refine lv_iconst (v := (0 : Int32)) E.hx E.hb dX9_pageOf_34 ic_0 ?_
    exact hret _ th_2 _ _ _ _ _ _ hW (Option.some.inj hf).symm rfl (by decide) (by decide) dX9_pageOf_35
  · have hf := oF hc hf
    refine k_aload_n E hl 0 dX9_pageOf_12 rfl ?_
    refine k_iload_n E hl 2 dX9_pageOf_13 rfl ?_
    refine lv_i2l (v := (v2_0).toInt64) E.hx E.hb dX9_pageOf_14 rfl ?_
    refine lv_lconst (v := (0 : Int64)) E.hx E.hb dX9_pageOf_15 (by decide) ?_
    refine k_aload_n E hl 0 dX9_pageOf_16 rfl ?_
    refine k_iload_n E hl 1 dX9_pageOf_17 rfl ?_
    obtain ⟨r_4, hg, hf⟩ := ob hf
    refine k_callVi (As := [.int v1_0]) (rest := [.long (0 : Int64), .long ((v2_0).toInt64), .ref (a_th 0)]) (ws2 := fun u => wModel k a_th th_2) (c_X9_pagesOf n l k a_th th_2 v1_0 r_4 hg) E vl_X9_103 dX9_pageOf_18 rfl [0, 1, 2, 3, 4, 5, 6, 7, 8, 9, 10, 11, 12] 7 0 hW hA hl rfl rfl rfl rfl ⟨by decide, by decide⟩ ⟨by decide, by decide⟩ (Nat.le_of_ble_eq_true rfl) rfl (fun _ => rfl) (fun _ => rfl) (fun r u H locs hp hW => ?_)
    cases hp
    have hW : WD k A s.heap (wModel k a_th th_2) H locs := hW
    refine lv_iconst (v := (1 : Int32)) E.hx E.hb dX9_pageOf_21 ic_1 ?_
    refine lv_isub E.hx E.hb dX9_pageOf_22 ?_
    refine lv_i2l (v := ((r_4 - (1 : Int32))).toInt64) E.hx E.hb dX9_pageOf_23 rfl ?_
    obtain ⟨r_5, hg, hf⟩ := ob hf
    refine k_callSi (As := [.long ((v2_0).toInt64), .long (0 : Int64), .long (((r_4 - (1 : Int32))).toInt64)]) (rest := [.ref (a_th 0)]) (ws2 := fun u => wModel k a_th th_2) (c_X9_isIn n l k ((v2_0).toInt64) (0 : Int64) (((r_4 - (1 : Int32))).toInt64) r_5 hg) E sl_X9_92 dX9_pageOf_24 rfl [] hW hA hl rfl rfl ⟨by decide, by decide⟩ ⟨by decide, by decide⟩ (Nat.le_of_ble_eq_true rfl) rfl (fun _ => rfl) (fun _ => rfl) (fun r u H locs hp hW => ?_)
    cases hp
    have hW : WD k A s.heap (wModel k a_th th_2) H locs := hW
    refine lv_iconst (v := (2 : Int32)) E.hx E.hb dX9_pageOf_27 ic_2 ?_
    obtain ⟨th_6, r_7, hg, hf⟩ := ob2 hf
    refine k_callVi (As := [.int r_5, .int (2 : Int32)]) (rest := []) (ws2 := fun u => wModel k a_th (u)) (c_X9_may n l k a_th th_2 r_5 (2 : Int32) (th_6, r_7) hg) E vl_X9_210 dX9_pageOf_28 rfl [0, 1, 2, 3, 4, 5, 6, 7, 8, 9, 10, 11, 12] 7 0 hW hA hl rfl rfl rfl rfl ⟨by decide, by decide⟩ ⟨by decide, by decide⟩ (Nat.le_of_ble_eq_true rfl) rfl (fun _ => rfl) (fun _ => rfl) (fun r u H locs hp hW => ?_)
    cases hp
    have hW : WD k A s.heap (wModel k a_th th_6) H locs := hW
    refine lv_if_ne (tgt := 36) E.hx E.hb dX9_pageOf_31 (by decide) (fun hc => ?_) (fun hc => ?_)
    · have hf := oF hc hf
      refine k_iload_n E hl 2 dX9_pageOf_36 rfl ?_
      refine k_istore_n (lv' := [(3, .int v2_0), (0, .ref (a_th 0)), (1, .int v1_0), (2, .int v2_0)]) E rfl hl dX9_pageOf_37 rfl (by decide) rfl (fun ls hl => ?_)
      refine lv_iconst (v := (0 : Int32)) E.hx E.hb dX9_pageOf_38 ic_0 ?_
      refine k_istore (lv' := [(4, .int (0 : Int32)), (3, .int v2_0), (0, .ref (a_th 0)), (1, .int v1_0), (2, .int v2_0)]) E rfl hl dX9_pageOf_39 (by decide) rfl (fun ls hl => ?_)
      have L_41 : ∀ (N_41 : Nat) (th_j41 : OS) (w3_j41 : Int32) (w4_j41 : Int32) (H : Heap) (locs : List Loc) (ls : Array Slot) (hW : WD k A s.heap (wModel k a_th th_j41) H locs) (hl : lv_has ls 5 [(0, .ref (a_th 0)), (1, .int v1_0), (3, .int w3_j41), (4, .int w4_j41)]) (hf : l_X9_pageOf_41 n v1_0 N_41 th_j41 w3_j41 w4_j41 = some res), W p l e { frames := 2, cells := 0, slots := 0, locals := 46 } s m args below meth c H locs 0 0 Q (F0 m 41 ls []) := by
        intro N_41
        induction N_41 with
        | zero => intro th_j41 w3_j41 w4_j41 H locs ls hW hl hf; exact o0 hf
        | succ N_41 ih_41 =>
          intro th_j41 w3_j41 w4_j41 H locs ls hW hl hf
          have hf : s_X9_pageOf_41 n v1_0 (l_X9_pageOf_41 n v1_0 N_41) th_j41 w3_j41 w4_j41 = some res := hf
          unfold s_X9_pageOf_41 at hf
          refine k_aload_n E hl 0 dX9_pageOf_41 rfl ?_
          refine gf_X9_13 E hW 0 rfl rfl dX9_pageOf_42 ?_
          refine lv_sipush (v := (538 : Int32)) E.hx E.hb dX9_pageOf_45 sp_538 ?_
          refine k_iload E hl 3 dX9_pageOf_48 rfl ?_
          refine lv_iadd E.hx E.hb dX9_pageOf_50 ?_
          obtain ⟨hin, hf⟩ := oI hf
          obtain ⟨x_8, ex_8, hf⟩ := oL hf
          refine k_iald E hW 2 rfl hin dX9_pageOf_51 ?_
          refine k_topi ex_8 ?_
          refine k_iload_n E hl 1 dX9_pageOf_52 rfl ?_
          have J_60 : ∀ (th_j60 : OS) (w3_j60 : Int32) (w4_j60 : Int32) (H : Heap) (locs : List Loc) (ls : Array Slot) (hW : WD k A s.heap (wModel k a_th th_j60) H locs) (hl : lv_has ls 5 [(0, .ref (a_th 0)), (1, .int v1_0), (3, .int w3_j60), (4, .int w4_j60)]) (hf : j_X9_pageOf_60 n v1_0 (l_X9_pageOf_41 n v1_0 N_41) th_j60 w3_j60 w4_j60 = some res), W p l e { frames := 2, cells := 0, slots := 0, locals := 46 } s m args below meth c H locs 0 0 Q (F0 m 60 ls []) := by
            intro th_j60 w3_j60 w4_j60 H locs ls hW hl hf
            unfold j_X9_pageOf_60 at hf
            refine k_aload_n E hl 0 dX9_pageOf_60 rfl ?_
            refine gf_X9_13 E hW 0 rfl rfl dX9_pageOf_61 ?_
            refine lv_sipush (v := (538 : Int32)) E.hx E.hb dX9_pageOf_64 sp_538 ?_
            refine k_iload E hl 3 dX9_pageOf_67 rfl ?_
            refine lv_iadd E.hx E.hb dX9_pageOf_69 ?_
            obtain ⟨hin, hf⟩ := oI hf
            obtain ⟨x_9, ex_9, hf⟩ := oL hf
            refine k_iald E hW 2 rfl hin dX9_pageOf_70 ?_
            refine k_topi ex_9 ?_
            refine k_iload_n E hl 1 dX9_pageOf_71 rfl ?_
            refine lv_icmp_ne (tgt := 79) E.hx E.hb dX9_pageOf_72 (by decide) (fun hc => ?_) (fun hc => ?_)
            · have hf := oF hc hf
              refine k_iload E hl 3 dX9_pageOf_79 rfl ?_
              refine lv_iconst (v := (1 : Int32)) E.hx E.hb dX9_pageOf_81 ic_1 ?_
              refine lv_iadd E.hx E.hb dX9_pageOf_82 ?_
              obtain ⟨v4_10, ev4_10, hf⟩ := oL hf
              refine k_istore (lv' := [(4, .int v4_10), (0, .ref (a_th 0)), (1, .int v1_0), (3, .int w3_j60)]) E ev4_10 hl dX9_pageOf_83 (by decide) rfl (fun ls hl => ?_)
              refine lv_goto (tgt := 41) E.hx E.hb dX9_pageOf_85 (by decide) ?_
              exact ih_41 th_j60 w3_j60 v4_10 _ _ _ hW (lv_sub hl [1, 2, 3, 0] rfl) hf
            · have hf := oT hc hf
              refine k_iload_n E hl 2 dX9_pageOf_75 rfl ?_
              refine lv_iconst (v := (1 : Int32)) E.hx E.hb dX9_pageOf_76 ic_1 ?_
              refine lv_isub E.hx E.hb dX9_pageOf_77 ?_
              obtain ⟨v3_11, ev3_11, hf⟩ := oL hf
              refine k_istore_n (lv' := [(3, .int v3_11), (0, .ref (a_th 0)), (1, .int v1_0), (4, .int w4_j60)]) E ev3_11 hl dX9_pageOf_78 rfl (by decide) rfl (fun ls hl => ?_)
              refine k_iload E hl 3 dX9_pageOf_79 rfl ?_
              refine lv_iconst (v := (1 : Int32)) E.hx E.hb dX9_pageOf_81 ic_1 ?_
              refine lv_iadd E.hx E.hb dX9_pageOf_82 ?_
              obtain ⟨v4_12, ev4_12, hf⟩ := oL hf
              refine k_istore (lv' := [(4, .int v4_12), (3, .int v3_11), (0, .ref (a_th 0)), (1, .int v1_0)]) E ev4_12 hl dX9_pageOf_83 (by decide) rfl (fun ls hl => ?_)
              refine lv_goto (tgt := 41) E.hx E.hb dX9_pageOf_85 (by decide) ?_
              exact ih_41 th_j60 v3_11 v4_12 _ _ _ hW (lv_sub hl [2, 3, 1, 0] rfl) hf
          refine lv_icmp_ne (tgt := 60) E.hx E.hb dX9_pageOf_53 (by decide) (fun hc => ?_) (fun hc => ?_)
          · have hf := oF hc hf
            exact J_60 th_j41 w3_j41 w4_j41 _ _ _ hW (lv_sub hl [0, 1, 2, 3] rfl) hf
          · have hf := oT hc hf
            refine k_iload_n E hl 2 dX9_pageOf_56 rfl ?_
            refine lv_if_le (tgt := 88) E.hx E.hb dX9_pageOf_57 (by decide) (fun hc => ?_) (fun hc => ?_)
            · have hf := oT hc hf
              refine k_iload E hl 3 dX9_pageOf_88 rfl ?_
              exact hret _ th_j41 _ _ _ _ _ _ hW (Option.some.inj hf).symm rfl (by decide) (by decide) dX9_pageOf_90
            · have hf := oF hc hf
              exact J_60 th_j41 w3_j41 w4_j41 _ _ _ hW (lv_sub hl [0, 1, 2, 3] rfl) hf
      exact L_41 n th_6 v2_0 (0 : Int32) _ _ _ hW (lv_sub hl [2, 3, 1, 0] rfl) hf
    · have hf := oT hc hf
      refine lv_iconst (v := (0 : Int32)) E.hx E.hb dX9_pageOf_34 ic_0 ?_
      exact hret _ th_6 _ _ _ _ _ _ hW (Option.some.inj hf).symm rfl (by decide) (by decide) dX9_pageOf_35
def s_X9_pieces_18 (n : Nat) (w1_j18 : Int32) (rc_18 : (OS) → (Int32) → (Int32) → Option (OS × Int32)) (th_j18 : OS) (w2_j18 : Int32) (w3_j18 : Int32) : Option (OS × Int32) :=
  if (th_j18.1 1) ≤ w3_j18 then (
  some (th_j18, w2_j18)) else (
  gI 1846 ((538 : Int32) + w3_j18) (Let ((th_j18.2.1 9) ((538 : Int32) + w3_j18).toNatClampNeg) (fun x_4 : Int32 =>
  if x_4 = w1_j18 then (
  if w3_j18 = 0 then (
  Let (w2_j18 + (1 : Int32)) (fun v2_6 : Int32 =>
  Let (w3_j18 + (1 : Int32)) (fun v3_7 : Int32 =>
  rc_18 th_j18 v2_6 v3_7))) else (
  gI 1846 (((538 : Int32) + w3_j18) - (1 : Int32)) (Let ((th_j18.2.1 9) (((538 : Int32) + w3_j18) - (1 : Int32)).toNatClampNeg) (fun x_8 : Int32 =>
  if x_8 = w1_j18 then (
  Let (w3_j18 + (1 : Int32)) (fun v3_9 : Int32 =>
  rc_18 th_j18 w2_j18 v3_9)) else (
  Let (w2_j18 + (1 : Int32)) (fun v2_10 : Int32 =>
  Let (w3_j18 + (1 : Int32)) (fun v3_11 : Int32 =>
  rc_18 th_j18 v2_10 v3_11))))))) else (
  Let (w3_j18 + (1 : Int32)) (fun v3_5 : Int32 =>
  rc_18 th_j18 w2_j18 v3_5)))))
def l_X9_pieces_18 (n : Nat) (w1_j18 : Int32) : Nat → (OS) → (Int32) → (Int32) → Option (OS × Int32)
  | 0 => fun _ _ _ => none
  | N + 1 => s_X9_pieces_18 n w1_j18 (l_X9_pieces_18 n w1_j18 N)
def f_X9_pieces (n : Nat) (th_0 : OS) (v1_0 : Int32) : Option (OS × Int32) :=
  bnd (f_X9_isLoan n th_0 v1_0) (fun (r_1 : Int32) =>
  bnd2 (f_X9_is n th_0 r_1) (fun (th_2 : OS) (r_3 : Int32) =>
  if r_3 = 0 then (
  some (th_2, (0 : Int32))) else (
  l_X9_pieces_18 n v1_0 n th_2 (0 : Int32) (0 : Int32))))
set_option maxHeartbeats 4000000 in
set_option maxRecDepth 100000 in
theorem c_X9_pieces (n : Nat) (l : Launch) (k : KT) (a_th : Nat → Nat) (th_0 : OS) (v1_0 : Int32) (res : (OS × Int32)) (hf : f_X9_pieces n th_0 v1_0 = some res) : CG l k yX9_pieces cX9_pieces 4 (some .int) 2 0 0 46 [.ref (a_th 0), .int v1_0] (wModel k a_th th_0) (Qi k (fun u : OS => wModel k a_th u) (fun (r : Int32) (u : OS) => res = (u, r))) := by
  refine CG.ofI (by decide) (Nat.le_of_ble_eq_true rfl) (fun p e s m args below meth c A Q E hnm hW hA hret ls hl => ?_)
  have hl : lv_has ls 4 [(0, .ref (a_th 0)), (1, .int v1_0)] := hl
  unfold f_X9_pieces at hf
  refine k_aload_n E hl 0 dX9_pieces_0 rfl ?_
  refine k_aload_n E hl 0 dX9_pieces_1 rfl ?_
  refine k_iload_n E hl 1 dX9_pieces_2 rfl ?_
  obtain ⟨r_1, hg, hf⟩ := ob hf
  refine k_callVi (As := [.int v1_0]) (rest := [.ref (a_th 0)]) (ws2 := fun u => wModel k a_th th_0) (c_X9_isLoan n l k a_th th_0 v1_0 r_1 hg) E vl_X9_235 dX9_pieces_3 rfl [0, 1, 2, 3, 4, 5, 6, 7, 8, 9, 10, 11, 12] 7 0 hW hA hl rfl rfl rfl rfl ⟨by decide, by decide⟩ ⟨by decide, by decide⟩ (Nat.le_of_ble_eq_true rfl) rfl (fun _ => rfl) (fun _ => rfl) (fun r u H locs hp hW => ?_)
  cases hp
  have hW : WD k A s.heap (wModel k a_th th_0) H locs := hW
  obtain ⟨th_2, r_3, hg, hf⟩ := ob2 hf
  refine k_callVi (As := [.int r_1]) (rest := []) (ws2 := fun u => wModel k a_th (u)) (c_X9_is n l k a_th th_0 r_1 (th_2, r_3) hg) E vl_X9_77 dX9_pieces_6 rfl [0, 1, 2, 3, 4, 5, 6, 7, 8, 9, 10, 11, 12] 7 0 hW hA hl rfl rfl rfl rfl ⟨by decide, by decide⟩ ⟨by decide, by decide⟩ (Nat.le_of_ble_eq_true rfl) rfl (fun _ => rfl) (fun _ => rfl) (fun r u H locs hp hW => ?_)
  cases hp
  have hW : WD k A s.heap (wModel k a_th th_2) H locs := hW
  refine lv_if_ne (tgt := 14) E.hx E.hb dX9_pieces_9 (by decide) (fun hc => ?_) (fun hc => ?_)
  · have hf := oF hc hf
    refine lv_iconst (v := (0 : Int32)) E.hx E.hb dX9_pieces_14 ic_0 ?_
    refine k_istore_n (lv' := [(2, .int (0 : Int32)), (0, .ref (a_th 0)), (1, .int v1_0)]) E rfl hl dX9_pieces_15 rfl (by decide) rfl (fun ls hl => ?_)
    refine lv_iconst (v := (0 : Int32)) E.hx E.hb dX9_pieces_16 ic_0 ?_
    refine k_istore_n (lv' := [(3, .int (0 : Int32)), (2, .int (0 : Int32)), (0, .ref (a_th 0)), (1, .int v1_0)]) E rfl hl dX9_pieces_17 rfl (by decide) rfl (fun ls hl => ?_)
    have L_18 : ∀ (N_18 : Nat) (th_j18 : OS) (w2_j18 : Int32) (w3_j18 : Int32) (H : Heap) (locs : List Loc) (ls : Array Slot) (hW : WD k A s.heap (wModel k a_th th_j18) H locs) (hl : lv_has ls 4 [(0, .ref (a_th 0)), (1, .int v1_0), (2, .int w2_j18), (3, .int w3_j18)]) (hf : l_X9_pieces_18 n v1_0 N_18 th_j18 w2_j18 w3_j18 = some res), W p l e { frames := 2, cells := 0, slots := 0, locals := 46 } s m args below meth c H locs 0 0 Q (F0 m 18 ls []) := by
      intro N_18
      induction N_18 with
      | zero => intro th_j18 w2_j18 w3_j18 H locs ls hW hl hf; exact o0 hf
      | succ N_18 ih_18 =>
        intro th_j18 w2_j18 w3_j18 H locs ls hW hl hf
        have hf : s_X9_pieces_18 n v1_0 (l_X9_pieces_18 n v1_0 N_18) th_j18 w2_j18 w3_j18 = some res := hf
        unfold s_X9_pieces_18 at hf
        refine k_iload_n E hl 3 dX9_pieces_18 rfl ?_
        refine k_aload_n E hl 0 dX9_pieces_19 rfl ?_
        refine gf_X9_100 E hW 0 rfl rfl dX9_pieces_20 ?_
        refine lv_icmp_ge (tgt := 70) E.hx E.hb dX9_pieces_23 (by decide) (fun hc => ?_) (fun hc => ?_)
        · have hf := oT hc hf
          refine k_iload_n E hl 2 dX9_pieces_70 rfl ?_
          exact hret _ th_j18 _ _ _ _ _ _ hW (Option.some.inj hf).symm rfl (by decide) (by decide) dX9_pieces_71
        · have hf := oF hc hf
          refine k_aload_n E hl 0 dX9_pieces_26 rfl ?_
          refine gf_X9_13 E hW 0 rfl rfl dX9_pieces_27 ?_
          refine lv_sipush (v := (538 : Int32)) E.hx E.hb dX9_pieces_30 sp_538 ?_
          refine k_iload_n E hl 3 dX9_pieces_33 rfl ?_
          refine lv_iadd E.hx E.hb dX9_pieces_34 ?_
          obtain ⟨hin, hf⟩ := oI hf
          obtain ⟨x_4, ex_4, hf⟩ := oL hf
          refine k_iald E hW 2 rfl hin dX9_pieces_35 ?_
          refine k_topi ex_4 ?_
          refine k_iload_n E hl 1 dX9_pieces_36 rfl ?_
          refine lv_icmp_ne (tgt := 64) E.hx E.hb dX9_pieces_37 (by decide) (fun hc => ?_) (fun hc => ?_)
          · have hf := oF hc hf
            obtain ⟨v3_5, ev3_5, hf⟩ := oL hf
            refine k_iinc (lv' := [(3, .int v3_5), (0, .ref (a_th 0)), (1, .int v1_0), (2, .int w2_j18)]) E hl 3 dX9_pieces_64 rfl (ev3_5.trans (congrArg (fun z => w3_j18 + z) ic_1.symm)) (by decide) rfl (fun ls hl => ?_)
            refine lv_goto (tgt := 18) E.hx E.hb dX9_pieces_67 (by decide) ?_
            exact ih_18 th_j18 w2_j18 v3_5 _ _ _ hW (lv_sub hl [1, 2, 3, 0] rfl) hf
          · have hf := oT hc hf
            refine k_iload_n E hl 3 dX9_pieces_40 rfl ?_
            refine lv_if_eq (tgt := 60) E.hx E.hb dX9_pieces_41 (by decide) (fun hc => ?_) (fun hc => ?_)
            · have hf := oT hc hf
              refine k_iload_n E hl 2 dX9_pieces_60 rfl ?_
              refine lv_iconst (v := (1 : Int32)) E.hx E.hb dX9_pieces_61 ic_1 ?_
              refine lv_iadd E.hx E.hb dX9_pieces_62 ?_
              obtain ⟨v2_6, ev2_6, hf⟩ := oL hf
              refine k_istore_n (lv' := [(2, .int v2_6), (0, .ref (a_th 0)), (1, .int v1_0), (3, .int w3_j18)]) E ev2_6 hl dX9_pieces_63 rfl (by decide) rfl (fun ls hl => ?_)
              obtain ⟨v3_7, ev3_7, hf⟩ := oL hf
              refine k_iinc (lv' := [(3, .int v3_7), (2, .int v2_6), (0, .ref (a_th 0)), (1, .int v1_0)]) E hl 3 dX9_pieces_64 rfl (ev3_7.trans (congrArg (fun z => w3_j18 + z) ic_1.symm)) (by decide) rfl (fun ls hl => ?_)
              refine lv_goto (tgt := 18) E.hx E.hb dX9_pieces_67 (by decide) ?_
              exact ih_18 th_j18 v2_6 v3_7 _ _ _ hW (lv_sub hl [2, 3, 1, 0] rfl) hf
            · have hf := oF hc hf
              refine k_aload_n E hl 0 dX9_pieces_44 rfl ?_
              refine gf_X9_13 E hW 0 rfl rfl dX9_pieces_45 ?_
              refine lv_sipush (v := (538 : Int32)) E.hx E.hb dX9_pieces_48 sp_538 ?_
              refine k_iload_n E hl 3 dX9_pieces_51 rfl ?_
              refine lv_iadd E.hx E.hb dX9_pieces_52 ?_
              refine lv_iconst (v := (1 : Int32)) E.hx E.hb dX9_pieces_53 ic_1 ?_
              refine lv_isub E.hx E.hb dX9_pieces_54 ?_
              obtain ⟨hin, hf⟩ := oI hf
              obtain ⟨x_8, ex_8, hf⟩ := oL hf
              refine k_iald E hW 2 rfl hin dX9_pieces_55 ?_
              refine k_topi ex_8 ?_
              refine k_iload_n E hl 1 dX9_pieces_56 rfl ?_
              refine lv_icmp_eq (tgt := 64) E.hx E.hb dX9_pieces_57 (by decide) (fun hc => ?_) (fun hc => ?_)
              · have hf := oT hc hf
                obtain ⟨v3_9, ev3_9, hf⟩ := oL hf
                refine k_iinc (lv' := [(3, .int v3_9), (0, .ref (a_th 0)), (1, .int v1_0), (2, .int w2_j18)]) E hl 3 dX9_pieces_64 rfl (ev3_9.trans (congrArg (fun z => w3_j18 + z) ic_1.symm)) (by decide) rfl (fun ls hl => ?_)
                refine lv_goto (tgt := 18) E.hx E.hb dX9_pieces_67 (by decide) ?_
                exact ih_18 th_j18 w2_j18 v3_9 _ _ _ hW (lv_sub hl [1, 2, 3, 0] rfl) hf
              · have hf := oF hc hf
                refine k_iload_n E hl 2 dX9_pieces_60 rfl ?_
                refine lv_iconst (v := (1 : Int32)) E.hx E.hb dX9_pieces_61 ic_1 ?_
                refine lv_iadd E.hx E.hb dX9_pieces_62 ?_
                obtain ⟨v2_10, ev2_10, hf⟩ := oL hf
                refine k_istore_n (lv' := [(2, .int v2_10), (0, .ref (a_th 0)), (1, .int v1_0), (3, .int w3_j18)]) E ev2_10 hl dX9_pieces_63 rfl (by decide) rfl (fun ls hl => ?_)
                obtain ⟨v3_11, ev3_11, hf⟩ := oL hf
                refine k_iinc (lv' := [(3, .int v3_11), (2, .int v2_10), (0, .ref (a_th 0)), (1, .int v1_0)]) E hl 3 dX9_pieces_64 rfl (ev3_11.trans (congrArg (fun z => w3_j18 + z) ic_1.symm)) (by decide) rfl (fun ls hl => ?_)
                refine lv_goto (tgt := 18) E.hx E.hb dX9_pieces_67 (by decide) ?_
                exact ih_18 th_j18 v2_10 v3_11 _ _ _ hW (lv_sub hl [2, 3, 1, 0] rfl) hf
    exact L_18 n th_2 (0 : Int32) (0 : Int32) _ _ _ hW (lv_sub hl [2, 3, 1, 0] rfl) hf
  · have hf := oT hc hf
    refine lv_iconst (v := (0 : Int32)) E.hx E.hb dX9_pieces_12 ic_0 ?_
    exact hret _ th_2 _ _ _ _ _ _ hW (Option.some.inj hf).symm rfl (by decide) (by decide) dX9_pieces_13
def j_X9_longestFree_40 (n : Nat) (rc_11 : (OS) → (Int32) → (Int32) → (Int32) → Option (OS × Int32)) (th_j40 : OS) (w1_j40 : Int32) (w3_j40 : Int32) (s0_j40 : Int32) : Option (OS × Int32) :=
  bnd (f_X9_greater n w1_j40 s0_j40) (fun (r_3 : Int32) =>
  Let (w3_j40 + (1 : Int32)) (fun v3_4 : Int32 =>
  rc_11 th_j40 r_3 s0_j40 v3_4))
def s_X9_longestFree_11 (n : Nat) (rc_11 : (OS) → (Int32) → (Int32) → (Int32) → Option (OS × Int32)) (th_j11 : OS) (w1_j11 : Int32) (w2_j11 : Int32) (w3_j11 : Int32) : Option (OS × Int32) :=
  if (th_j11.1 1) ≤ w3_j11 then (
  some (th_j11, w1_j11)) else (
  gI 1846 ((538 : Int32) + w3_j11) (Let ((th_j11.2.1 9) ((538 : Int32) + w3_j11).toNatClampNeg) (fun x_2 : Int32 =>
  if x_2 = (-1 : Int32) then (
  j_X9_longestFree_40 n rc_11 th_j11 w1_j11 w3_j11 (w2_j11 + (1 : Int32))) else (
  j_X9_longestFree_40 n rc_11 th_j11 w1_j11 w3_j11 (0 : Int32)))))
def l_X9_longestFree_11 (n : Nat) : Nat → (OS) → (Int32) → (Int32) → (Int32) → Option (OS × Int32)
  | 0 => fun _ _ _ _ => none
  | N + 1 => s_X9_longestFree_11 n (l_X9_longestFree_11 n N)
def f_X9_longestFree (n : Nat) (th_0 : OS) : Option (OS × Int32) :=
  Let (sI th_0 0 (0 : Int32)) (fun th_1 : OS =>
  l_X9_longestFree_11 n n th_1 (0 : Int32) (0 : Int32) (0 : Int32))
set_option maxHeartbeats 4000000 in
set_option maxRecDepth 100000 in
theorem c_X9_longestFree (n : Nat) (l : Launch) (k : KT) (a_th : Nat → Nat) (th_0 : OS) (res : (OS × Int32)) (hf : f_X9_longestFree n th_0 = some res) : CG l k yX9_longestFree cX9_longestFree 4 (some .int) 1 0 0 21 [.ref (a_th 0)] (wModel k a_th th_0) (Qi k (fun u : OS => wModel k a_th u) (fun (r : Int32) (u : OS) => res = (u, r))) := by
  refine CG.ofI (by decide) (Nat.le_of_ble_eq_true rfl) (fun p e s m args below meth c A Q E hnm hW hA hret ls hl => ?_)
  have hl : lv_has ls 4 [(0, .ref (a_th 0))] := hl
  unfold f_X9_longestFree at hf
  refine k_aload_n E hl 0 dX9_longestFree_0 rfl ?_
  refine lv_iconst (v := (0 : Int32)) E.hx E.hb dX9_longestFree_1 ic_0 ?_
  obtain ⟨th_1, eth_1, hf⟩ := oL hf
  refine pf_X9_67 (ws2 := wModel k a_th th_1) E hW 0 rfl rfl rfl (Nat.le_of_ble_eq_true rfl) dX9_longestFree_2 (by rw [eth_1]; rfl) (fun H locs hW => ?_)
  refine lv_iconst (v := (0 : Int32)) E.hx E.hb dX9_longestFree_5 ic_0 ?_
  refine k_istore_n (lv' := [(1, .int (0 : Int32)), (0, .ref (a_th 0))]) E rfl hl dX9_longestFree_6 rfl (by decide) rfl (fun ls hl => ?_)
  refine lv_iconst (v := (0 : Int32)) E.hx E.hb dX9_longestFree_7 ic_0 ?_
  refine k_istore_n (lv' := [(2, .int (0 : Int32)), (1, .int (0 : Int32)), (0, .ref (a_th 0))]) E rfl hl dX9_longestFree_8 rfl (by decide) rfl (fun ls hl => ?_)
  refine lv_iconst (v := (0 : Int32)) E.hx E.hb dX9_longestFree_9 ic_0 ?_
  refine k_istore_n (lv' := [(3, .int (0 : Int32)), (2, .int (0 : Int32)), (1, .int (0 : Int32)), (0, .ref (a_th 0))]) E rfl hl dX9_longestFree_10 rfl (by decide) rfl (fun ls hl => ?_)
  have L_11 : ∀ (N_11 : Nat) (th_j11 : OS) (w1_j11 : Int32) (w2_j11 : Int32) (w3_j11 : Int32) (H : Heap) (locs : List Loc) (ls : Array Slot) (hW : WD k A s.heap (wModel k a_th th_j11) H locs) (hl : lv_has ls 4 [(0, .ref (a_th 0)), (1, .int w1_j11), (2, .int w2_j11), (3, .int w3_j11)]) (hf : l_X9_longestFree_11 n N_11 th_j11 w1_j11 w2_j11 w3_j11 = some res), W p l e { frames := 1, cells := 0, slots := 0, locals := 21 } s m args below meth c H locs 0 0 Q (F0 m 11 ls []) := by
    intro N_11
    induction N_11 with
    | zero => intro th_j11 w1_j11 w2_j11 w3_j11 H locs ls hW hl hf; exact o0 hf
    | succ N_11 ih_11 =>
      intro th_j11 w1_j11 w2_j11 w3_j11 H locs ls hW hl hf
      have hf : s_X9_longestFree_11 n  (l_X9_longestFree_11 n N_11) th_j11 w1_j11 w2_j11 w3_j11 = some res := hf
      unfold s_X9_longestFree_11 at hf
      refine k_iload_n E hl 3 dX9_longestFree_11 rfl ?_
      refine k_aload_n E hl 0 dX9_longestFree_12 rfl ?_
      refine gf_X9_100 E hW 0 rfl rfl dX9_longestFree_13 ?_
      refine lv_icmp_ge (tgt := 53) E.hx E.hb dX9_longestFree_16 (by decide) (fun hc => ?_) (fun hc => ?_)
      · have hf := oT hc hf
        refine k_iload_n E hl 1 dX9_longestFree_53 rfl ?_
        exact hret _ th_j11 _ _ _ _ _ _ hW (Option.some.inj hf).symm rfl (by decide) (by decide) dX9_longestFree_54
      · have hf := oF hc hf
        refine k_aload_n E hl 0 dX9_longestFree_19 rfl ?_
        refine gf_X9_13 E hW 0 rfl rfl dX9_longestFree_20 ?_
        refine lv_sipush (v := (538 : Int32)) E.hx E.hb dX9_longestFree_23 sp_538 ?_
        refine k_iload_n E hl 3 dX9_longestFree_26 rfl ?_
        refine lv_iadd E.hx E.hb dX9_longestFree_27 ?_
        obtain ⟨hin, hf⟩ := oI hf
        obtain ⟨x_2, ex_2, hf⟩ := oL hf
        refine k_iald E hW 2 rfl hin dX9_longestFree_28 ?_
        refine k_topi ex_2 ?_
        refine lv_iconst (v := (-1 : Int32)) E.hx E.hb dX9_longestFree_29 ic_m1 ?_
        have J_40 : ∀ (th_j40 : OS) (w1_j40 : Int32) (w3_j40 : Int32) (s0_j40 : Int32) (H : Heap) (locs : List Loc) (ls : Array Slot) (hW : WD k A s.heap (wModel k a_th th_j40) H locs) (hl : lv_has ls 4 [(0, .ref (a_th 0)), (1, .int w1_j40), (3, .int w3_j40)]) (hf : j_X9_longestFree_40 n (l_X9_longestFree_11 n N_11) th_j40 w1_j40 w3_j40 s0_j40 = some res), W p l e { frames := 1, cells := 0, slots := 0, locals := 21 } s m args below meth c H locs 0 0 Q (F0 m 40 ls [.int s0_j40]) := by
          intro th_j40 w1_j40 w3_j40 s0_j40 H locs ls hW hl hf
          unfold j_X9_longestFree_40 at hf
          refine k_istore_n (lv' := [(2, .int s0_j40), (0, .ref (a_th 0)), (1, .int w1_j40), (3, .int w3_j40)]) E rfl hl dX9_longestFree_40 rfl (by decide) rfl (fun ls hl => ?_)
          refine k_iload_n E hl 2 dX9_longestFree_41 rfl ?_
          refine k_iload_n E hl 0 dX9_longestFree_42 rfl ?_
          obtain ⟨r_3, hg, hf⟩ := ob hf
          refine k_callSi (As := [.int w1_j40, .int s0_j40]) (rest := []) (ws2 := fun u => wModel k a_th th_j40) (c_X9_greater n l k w1_j40 s0_j40 r_3 hg) E sl_X9_96 dX9_longestFree_43 rfl [] hW hA hl rfl rfl ⟨by decide, by decide⟩ ⟨by decide, by decide⟩ (Nat.le_of_ble_eq_true rfl) rfl (fun _ => rfl) (fun _ => rfl) (fun r u H locs hp hW => ?_)
          cases hp
          have hW : WD k A s.heap (wModel k a_th th_j40) H locs := hW
          refine k_istore_n (lv' := [(1, .int r_3), (2, .int s0_j40), (0, .ref (a_th 0)), (3, .int w3_j40)]) E rfl hl dX9_longestFree_46 rfl (by decide) rfl (fun ls hl => ?_)
          obtain ⟨v3_4, ev3_4, hf⟩ := oL hf
          refine k_iinc (lv' := [(3, .int v3_4), (1, .int r_3), (2, .int s0_j40), (0, .ref (a_th 0))]) E hl 3 dX9_longestFree_47 rfl (ev3_4.trans (congrArg (fun z => w3_j40 + z) ic_1.symm)) (by decide) rfl (fun ls hl => ?_)
          refine lv_goto (tgt := 11) E.hx E.hb dX9_longestFree_50 (by decide) ?_
          exact ih_11 th_j40 r_3 s0_j40 v3_4 _ _ _ hW (lv_sub hl [3, 1, 2, 0] rfl) hf
        refine lv_icmp_ne (tgt := 39) E.hx E.hb dX9_longestFree_30 (by decide) (fun hc => ?_) (fun hc => ?_)
        · have hf := oF hc hf
          refine lv_iconst (v := (0 : Int32)) E.hx E.hb dX9_longestFree_39 ic_0 ?_
          exact J_40 th_j11 w1_j11 w3_j11 (0 : Int32) _ _ _ hW (lv_sub hl [0, 1, 3] rfl) hf
        · have hf := oT hc hf
          refine k_iload_n E hl 2 dX9_longestFree_33 rfl ?_
          refine lv_iconst (v := (1 : Int32)) E.hx E.hb dX9_longestFree_34 ic_1 ?_
          refine lv_iadd E.hx E.hb dX9_longestFree_35 ?_
          refine lv_goto (tgt := 40) E.hx E.hb dX9_longestFree_36 (by decide) ?_
          exact J_40 th_j11 w1_j11 w3_j11 (w2_j11 + (1 : Int32)) _ _ _ hW (lv_sub hl [0, 1, 3] rfl) hf
  exact L_11 n th_1 (0 : Int32) (0 : Int32) (0 : Int32) _ _ _ hW (lv_sub hl [3, 2, 1, 0] rfl) hf
def j_X9_claim_26 (n : Nat) (v1_0 : Int32) (v2_0 : Int32) (th_j26 : OS) (s1_j26 : Int32) : Option (OS × Int32) :=
  bnd2 (f_X9_is n th_j26 s1_j26) (fun (th_2 : OS) (r_3 : Int32) =>
  if r_3 = 0 then (
  some (th_2, (0 : Int32))) else (
  bnd (f_X9_claim0 n th_2 v1_0 v2_0) (fun (r_4 : Int32) =>
  some (th_2, r_4))))
def f_X9_claim (n : Nat) (th_0 : OS) (v1_0 : Int32) (v2_0 : Int32) : Option (OS × Int32) :=
  bnd (f_X9_isClaim n th_0 v1_0) (fun (r_1 : Int32) =>
  if r_1 = 0 then (
  j_X9_claim_26 n v1_0 v2_0 th_0 (0 : Int32)) else (
  bnd (f_X9_isIn n ((v2_0).toInt64) (0 : Int64) (6 : Int64)) (fun (r_5 : Int32) =>
  if r_5 = 0 then (
  j_X9_claim_26 n v1_0 v2_0 th_0 (0 : Int32)) else (
  j_X9_claim_26 n v1_0 v2_0 th_0 (1 : Int32)))))
set_option maxHeartbeats 4000000 in
set_option maxRecDepth 100000 in
theorem c_X9_claim (n : Nat) (l : Launch) (k : KT) (a_th : Nat → Nat) (th_0 : OS) (v1_0 : Int32) (v2_0 : Int32) (res : (OS × Int32)) (hf : f_X9_claim n th_0 v1_0 v2_0 = some res) : CG l k yX9_claim cX9_claim 3 (some .int) 2 0 0 46 [.ref (a_th 0), .int v1_0, .int v2_0] (wModel k a_th th_0) (Qi k (fun u : OS => wModel k a_th u) (fun (r : Int32) (u : OS) => res = (u, r))) := by
  refine CG.ofI (by decide) (Nat.le_of_ble_eq_true rfl) (fun p e s m args below meth c A Q E hnm hW hA hret ls hl => ?_)
  have hl : lv_has ls 3 [(0, .ref (a_th 0)), (1, .int v1_0), (2, .int v2_0)] := hl
  unfold f_X9_claim at hf
  refine k_aload_n E hl 0 dX9_claim_0 rfl ?_
  refine k_aload_n E hl 0 dX9_claim_1 rfl ?_
  refine k_iload_n E hl 1 dX9_claim_2 rfl ?_
  obtain ⟨r_1, hg, hf⟩ := ob hf
  refine k_callVi (As := [.int v1_0]) (rest := [.ref (a_th 0)]) (ws2 := fun u => wModel k a_th th_0) (c_X9_isClaim n l k a_th th_0 v1_0 r_1 hg) E vl_X9_232 dX9_claim_3 rfl [0, 1, 2, 3, 4, 5, 6, 7, 8, 9, 10, 11, 12] 7 0 hW hA hl rfl rfl rfl rfl ⟨by decide, by decide⟩ ⟨by decide, by decide⟩ (Nat.le_of_ble_eq_true rfl) rfl (fun _ => rfl) (fun _ => rfl) (fun r u H locs hp hW => ?_)
  cases hp
  have hW : WD k A s.heap (wModel k a_th th_0) H locs := hW
  have J_26 : ∀ (th_j26 : OS) (s1_j26 : Int32) (H : Heap) (locs : List Loc) (ls : Array Slot) (hW : WD k A s.heap (wModel k a_th th_j26) H locs) (hl : lv_has ls 3 [(0, .ref (a_th 0)), (1, .int v1_0), (2, .int v2_0)]) (hf : j_X9_claim_26 n v1_0 v2_0 th_j26 s1_j26 = some res), W p l e { frames := 2, cells := 0, slots := 0, locals := 46 } s m args below meth c H locs 0 0 Q (F0 m 26 ls [.int s1_j26, .ref (a_th 0)]) := by
    intro th_j26 s1_j26 H locs ls hW hl hf
    unfold j_X9_claim_26 at hf
    obtain ⟨th_2, r_3, hg, hf⟩ := ob2 hf
    refine k_callVi (As := [.int s1_j26]) (rest := []) (ws2 := fun u => wModel k a_th (u)) (c_X9_is n l k a_th th_j26 s1_j26 (th_2, r_3) hg) E vl_X9_77 dX9_claim_26 rfl [0, 1, 2, 3, 4, 5, 6, 7, 8, 9, 10, 11, 12] 7 0 hW hA hl rfl rfl rfl rfl ⟨by decide, by decide⟩ ⟨by decide, by decide⟩ (Nat.le_of_ble_eq_true rfl) rfl (fun _ => rfl) (fun _ => rfl) (fun r u H locs hp hW => ?_)
    cases hp
    have hW : WD k A s.heap (wModel k a_th th_2) H locs := hW
    refine lv_if_eq (tgt := 41) E.hx E.hb dX9_claim_29 (by decide) (fun hc => ?_) (fun hc => ?_)
    · have hf := oT hc hf
      refine lv_iconst (v := (0 : Int32)) E.hx E.hb dX9_claim_41 ic_0 ?_
      exact hret _ th_2 _ _ _ _ _ _ hW (Option.some.inj hf).symm rfl (by decide) (by decide) dX9_claim_42
    · have hf := oF hc hf
      refine k_aload_n E hl 0 dX9_claim_32 rfl ?_
      refine k_iload_n E hl 1 dX9_claim_33 rfl ?_
      refine k_iload_n E hl 2 dX9_claim_34 rfl ?_
      obtain ⟨r_4, hg, hf⟩ := ob hf
      refine k_callVi (As := [.int v1_0, .int v2_0]) (rest := []) (ws2 := fun u => wModel k a_th th_2) (c_X9_claim0 n l k a_th th_2 v1_0 v2_0 r_4 hg) E vl_X9_139 dX9_claim_35 rfl [0, 1, 2, 3, 4, 5, 6, 7, 8, 9, 10, 11, 12] 7 0 hW hA hl rfl rfl rfl rfl ⟨by decide, by decide⟩ ⟨by decide, by decide⟩ (Nat.le_of_ble_eq_true rfl) rfl (fun _ => rfl) (fun _ => rfl) (fun r u H locs hp hW => ?_)
      cases hp
      have hW : WD k A s.heap (wModel k a_th th_2) H locs := hW
      refine lv_goto (tgt := 42) E.hx E.hb dX9_claim_38 (by decide) ?_
      exact hret _ th_2 _ _ _ _ _ _ hW (Option.some.inj hf).symm rfl (by decide) (by decide) dX9_claim_42
  refine lv_if_eq (tgt := 25) E.hx E.hb dX9_claim_6 (by decide) (fun hc => ?_) (fun hc => ?_)
  · have hf := oT hc hf
    refine lv_iconst (v := (0 : Int32)) E.hx E.hb dX9_claim_25 ic_0 ?_
    exact J_26 th_0 (0 : Int32) _ _ _ hW (lv_sub hl [0, 1, 2] rfl) hf
  · have hf := oF hc hf
    refine k_iload_n E hl 2 dX9_claim_9 rfl ?_
    refine lv_i2l (v := (v2_0).toInt64) E.hx E.hb dX9_claim_10 rfl ?_
    refine lv_lconst (v := (0 : Int64)) E.hx E.hb dX9_claim_11 (by decide) ?_
    refine lv_ldc2 E.hx E.hb E.ho (E.w tm_1730 rfl) dX9_claim_12 ?_
    obtain ⟨r_5, hg, hf⟩ := ob hf
    refine k_callSi (As := [.long ((v2_0).toInt64), .long (0 : Int64), .long (6 : Int64)]) (rest := [.ref (a_th 0)]) (ws2 := fun u => wModel k a_th th_0) (c_X9_isIn n l k ((v2_0).toInt64) (0 : Int64) (6 : Int64) r_5 hg) E sl_X9_92 dX9_claim_15 rfl [] hW hA hl rfl rfl ⟨by decide, by decide⟩ ⟨by decide, by decide⟩ (Nat.le_of_ble_eq_true rfl) rfl (fun _ => rfl) (fun _ => rfl) (fun r u H locs hp hW => ?_)
    cases hp
    have hW : WD k A s.heap (wModel k a_th th_0) H locs := hW
    refine lv_if_eq (tgt := 25) E.hx E.hb dX9_claim_18 (by decide) (fun hc => ?_) (fun hc => ?_)
    · have hf := oT hc hf
      refine lv_iconst (v := (0 : Int32)) E.hx E.hb dX9_claim_25 ic_0 ?_
      exact J_26 th_0 (0 : Int32) _ _ _ hW (lv_sub hl [0, 1, 2] rfl) hf
    · have hf := oF hc hf
      refine lv_iconst (v := (1 : Int32)) E.hx E.hb dX9_claim_21 ic_1 ?_
      refine lv_goto (tgt := 26) E.hx E.hb dX9_claim_22 (by decide) ?_
      exact J_26 th_0 (1 : Int32) _ _ _ hW (lv_sub hl [0, 1, 2] rfl) hf
def f_X9_waiting (n : Nat) (th_0 : OS) (v1_0 : Int32) : Option (OS × Int32) :=
  bnd2 (f_X9_lines n th_0) (fun (th_1 : OS) (r_2 : Int32) =>
  bnd (f_X9_isIn n ((v1_0).toInt64) (0 : Int64) (((r_2 - (1 : Int32))).toInt64)) (fun (r_3 : Int32) =>
  bnd2 (f_X9_is n th_1 r_3) (fun (th_4 : OS) (r_5 : Int32) =>
  if r_5 = 0 then (
  some (th_4, (0 : Int32))) else (
  gI 60 v1_0 (Let ((th_4.2.1 21) v1_0.toNatClampNeg) (fun x_6 : Int32 =>
  some (th_4, x_6)))))))
set_option maxHeartbeats 4000000 in
set_option maxRecDepth 100000 in
theorem c_X9_waiting (n : Nat) (l : Launch) (k : KT) (a_th : Nat → Nat) (th_0 : OS) (v1_0 : Int32) (res : (OS × Int32)) (hf : f_X9_waiting n th_0 v1_0 = some res) : CG l k yX9_waiting cX9_waiting 3 (some .int) 3 0 0 67 [.ref (a_th 0), .int v1_0] (wModel k a_th th_0) (Qi k (fun u : OS => wModel k a_th u) (fun (r : Int32) (u : OS) => res = (u, r))) := by
  refine CG.ofI (by decide) (Nat.le_of_ble_eq_true rfl) (fun p e s m args below meth c A Q E hnm hW hA hret ls hl => ?_)
  have hl : lv_has ls 3 [(0, .ref (a_th 0)), (1, .int v1_0)] := hl
  unfold f_X9_waiting at hf
  refine k_aload_n E hl 0 dX9_waiting_0 rfl ?_
  obtain ⟨th_1, r_2, hg, hf⟩ := ob2 hf
  refine k_callVi (As := []) (rest := []) (ws2 := fun u => wModel k a_th (u)) (c_X9_lines n l k a_th th_0 (th_1, r_2) hg) E vl_X9_181 dX9_waiting_1 rfl [0, 1, 2, 3, 4, 5, 6, 7, 8, 9, 10, 11, 12] 7 0 hW hA hl rfl rfl rfl rfl ⟨by decide, by decide⟩ ⟨by decide, by decide⟩ (Nat.le_of_ble_eq_true rfl) rfl (fun _ => rfl) (fun _ => rfl) (fun r u H locs hp hW => ?_)
  cases hp
  have hW : WD k A s.heap (wModel k a_th th_1) H locs := hW
  refine k_istore_n (lv' := [(2, .int r_2), (0, .ref (a_th 0)), (1, .int v1_0)]) E rfl hl dX9_waiting_4 rfl (by decide) rfl (fun ls hl => ?_)
  refine k_aload_n E hl 1 dX9_waiting_5 rfl ?_
  refine k_iload_n E hl 2 dX9_waiting_6 rfl ?_
  refine lv_i2l (v := (v1_0).toInt64) E.hx E.hb dX9_waiting_7 rfl ?_
  refine lv_lconst (v := (0 : Int64)) E.hx E.hb dX9_waiting_8 (by decide) ?_
  refine k_iload_n E hl 0 dX9_waiting_9 rfl ?_
  refine lv_iconst (v := (1 : Int32)) E.hx E.hb dX9_waiting_10 ic_1 ?_
  refine lv_isub E.hx E.hb dX9_waiting_11 ?_
  refine lv_i2l (v := ((r_2 - (1 : Int32))).toInt64) E.hx E.hb dX9_waiting_12 rfl ?_
  obtain ⟨r_3, hg, hf⟩ := ob hf
  refine k_callSi (As := [.long ((v1_0).toInt64), .long (0 : Int64), .long (((r_2 - (1 : Int32))).toInt64)]) (rest := [.ref (a_th 0)]) (ws2 := fun u => wModel k a_th th_1) (c_X9_isIn n l k ((v1_0).toInt64) (0 : Int64) (((r_2 - (1 : Int32))).toInt64) r_3 hg) E sl_X9_92 dX9_waiting_13 rfl [] hW hA hl rfl rfl ⟨by decide, by decide⟩ ⟨by decide, by decide⟩ (Nat.le_of_ble_eq_true rfl) rfl (fun _ => rfl) (fun _ => rfl) (fun r u H locs hp hW => ?_)
  cases hp
  have hW : WD k A s.heap (wModel k a_th th_1) H locs := hW
  obtain ⟨th_4, r_5, hg, hf⟩ := ob2 hf
  refine k_callVi (As := [.int r_3]) (rest := []) (ws2 := fun u => wModel k a_th (u)) (c_X9_is n l k a_th th_1 r_3 (th_4, r_5) hg) E vl_X9_77 dX9_waiting_16 rfl [0, 1, 2, 3, 4, 5, 6, 7, 8, 9, 10, 11, 12] 7 0 hW hA hl rfl rfl rfl rfl ⟨by decide, by decide⟩ ⟨by decide, by decide⟩ (Nat.le_of_ble_eq_true rfl) rfl (fun _ => rfl) (fun _ => rfl) (fun r u H locs hp hW => ?_)
  cases hp
  have hW : WD k A s.heap (wModel k a_th th_4) H locs := hW
  refine lv_if_eq (tgt := 31) E.hx E.hb dX9_waiting_19 (by decide) (fun hc => ?_) (fun hc => ?_)
  · have hf := oT hc hf
    refine lv_iconst (v := (0 : Int32)) E.hx E.hb dX9_waiting_31 ic_0 ?_
    exact hret _ th_4 _ _ _ _ _ _ hW (Option.some.inj hf).symm rfl (by decide) (by decide) dX9_waiting_32
  · have hf := oF hc hf
    refine k_aload_n E hl 1 dX9_waiting_22 rfl ?_
    refine gf_X9_39 E hW 0 rfl rfl dX9_waiting_23 ?_
    refine k_iload_n E hl 2 dX9_waiting_26 rfl ?_
    obtain ⟨hin, hf⟩ := oI hf
    obtain ⟨x_6, ex_6, hf⟩ := oL hf
    refine k_iald E hW 8 rfl hin dX9_waiting_27 ?_
    refine k_topi ex_6 ?_
    refine lv_goto (tgt := 32) E.hx E.hb dX9_waiting_28 (by decide) ?_
    exact hret _ th_4 _ _ _ _ _ _ hW (Option.some.inj hf).symm rfl (by decide) (by decide) dX9_waiting_32
def f_X9_fine (n : Nat) (th_0 : OS) (v1_0 : Int32) (v2_0 : Int32) : Option (OS × Int32) :=
  bnd (f_X9_isIn n ((v2_0).toInt64) (0 : Int64) (7 : Int64)) (fun (r_1 : Int32) =>
  bnd2 (f_X9_is n th_0 r_1) (fun (th_2 : OS) (r_3 : Int32) =>
  if r_3 = 0 then (
  some (th_2, (0 : Int32))) else (
  bnd (f_X9_isKnown n th_2 v1_0) (fun (r_4 : Int32) =>
  bnd2 (f_X9_may n th_2 r_4 (2 : Int32)) (fun (th_5 : OS) (r_6 : Int32) =>
  if r_6 = 0 then (
  some (th_5, (0 : Int32))) else (
  bnd (f_X9_fine0 n th_5 v1_0 v2_0) (fun (r_7 : Int32) =>
  some (th_5, r_7))))))))
set_option maxHeartbeats 4000000 in
set_option maxRecDepth 100000 in
theorem c_X9_fine (n : Nat) (l : Launch) (k : KT) (a_th : Nat → Nat) (th_0 : OS) (v1_0 : Int32) (v2_0 : Int32) (res : (OS × Int32)) (hf : f_X9_fine n th_0 v1_0 v2_0 = some res) : CG l k yX9_fine cX9_fine 3 (some .int) 2 0 0 46 [.ref (a_th 0), .int v1_0, .int v2_0] (wModel k a_th th_0) (Qi k (fun u : OS => wModel k a_th u) (fun (r : Int32) (u : OS) => res = (u, r))) := by
  refine CG.ofI (by decide) (Nat.le_of_ble_eq_true rfl) (fun p e s m args below meth c A Q E hnm hW hA hret ls hl => ?_)
  have hl : lv_has ls 3 [(0, .ref (a_th 0)), (1, .int v1_0), (2, .int v2_0)] := hl
  unfold f_X9_fine at hf
  refine k_aload_n E hl 0 dX9_fine_0 rfl ?_
  refine k_iload_n E hl 2 dX9_fine_1 rfl ?_
  refine lv_i2l (v := (v2_0).toInt64) E.hx E.hb dX9_fine_2 rfl ?_
  refine lv_lconst (v := (0 : Int64)) E.hx E.hb dX9_fine_3 (by decide) ?_
  refine lv_ldc2 E.hx E.hb E.ho (E.w tm_1709 rfl) dX9_fine_4 ?_
  obtain ⟨r_1, hg, hf⟩ := ob hf
  refine k_callSi (As := [.long ((v2_0).toInt64), .long (0 : Int64), .long (7 : Int64)]) (rest := [.ref (a_th 0)]) (ws2 := fun u => wModel k a_th th_0) (c_X9_isIn n l k ((v2_0).toInt64) (0 : Int64) (7 : Int64) r_1 hg) E sl_X9_92 dX9_fine_7 rfl [] hW hA hl rfl rfl ⟨by decide, by decide⟩ ⟨by decide, by decide⟩ (Nat.le_of_ble_eq_true rfl) rfl (fun _ => rfl) (fun _ => rfl) (fun r u H locs hp hW => ?_)
  cases hp
  have hW : WD k A s.heap (wModel k a_th th_0) H locs := hW
  obtain ⟨th_2, r_3, hg, hf⟩ := ob2 hf
  refine k_callVi (As := [.int r_1]) (rest := []) (ws2 := fun u => wModel k a_th (u)) (c_X9_is n l k a_th th_0 r_1 (th_2, r_3) hg) E vl_X9_77 dX9_fine_10 rfl [0, 1, 2, 3, 4, 5, 6, 7, 8, 9, 10, 11, 12] 7 0 hW hA hl rfl rfl rfl rfl ⟨by decide, by decide⟩ ⟨by decide, by decide⟩ (Nat.le_of_ble_eq_true rfl) rfl (fun _ => rfl) (fun _ => rfl) (fun r u H locs hp hW => ?_)
  cases hp
  have hW : WD k A s.heap (wModel k a_th th_2) H locs := hW
  refine lv_if_eq (tgt := 29) E.hx E.hb dX9_fine_13 (by decide) (fun hc => ?_) (fun hc => ?_)
  · have hf := oT hc hf
    refine lv_iconst (v := (0 : Int32)) E.hx E.hb dX9_fine_29 ic_0 ?_
    exact hret _ th_2 _ _ _ _ _ _ hW (Option.some.inj hf).symm rfl (by decide) (by decide) dX9_fine_30
  · have hf := oF hc hf
    refine k_aload_n E hl 0 dX9_fine_16 rfl ?_
    refine k_aload_n E hl 0 dX9_fine_17 rfl ?_
    refine k_iload_n E hl 1 dX9_fine_18 rfl ?_
    obtain ⟨r_4, hg, hf⟩ := ob hf
    refine k_callVi (As := [.int v1_0]) (rest := [.ref (a_th 0)]) (ws2 := fun u => wModel k a_th th_2) (c_X9_isKnown n l k a_th th_2 v1_0 r_4 hg) E vl_X9_260 dX9_fine_19 rfl [0, 1, 2, 3, 4, 5, 6, 7, 8, 9, 10, 11, 12] 7 0 hW hA hl rfl rfl rfl rfl ⟨by decide, by decide⟩ ⟨by decide, by decide⟩ (Nat.le_of_ble_eq_true rfl) rfl (fun _ => rfl) (fun _ => rfl) (fun r u H locs hp hW => ?_)
    cases hp
    have hW : WD k A s.heap (wModel k a_th th_2) H locs := hW
    refine lv_iconst (v := (2 : Int32)) E.hx E.hb dX9_fine_22 ic_2 ?_
    obtain ⟨th_5, r_6, hg, hf⟩ := ob2 hf
    refine k_callVi (As := [.int r_4, .int (2 : Int32)]) (rest := []) (ws2 := fun u => wModel k a_th (u)) (c_X9_may n l k a_th th_2 r_4 (2 : Int32) (th_5, r_6) hg) E vl_X9_210 dX9_fine_23 rfl [0, 1, 2, 3, 4, 5, 6, 7, 8, 9, 10, 11, 12] 7 0 hW hA hl rfl rfl rfl rfl ⟨by decide, by decide⟩ ⟨by decide, by decide⟩ (Nat.le_of_ble_eq_true rfl) rfl (fun _ => rfl) (fun _ => rfl) (fun r u H locs hp hW => ?_)
    cases hp
    have hW : WD k A s.heap (wModel k a_th th_5) H locs := hW
    refine lv_if_ne (tgt := 31) E.hx E.hb dX9_fine_26 (by decide) (fun hc => ?_) (fun hc => ?_)
    · have hf := oF hc hf
      refine k_aload_n E hl 0 dX9_fine_31 rfl ?_
      refine k_iload_n E hl 1 dX9_fine_32 rfl ?_
      refine k_iload_n E hl 2 dX9_fine_33 rfl ?_
      obtain ⟨r_7, hg, hf⟩ := ob hf
      refine k_callVi (As := [.int v1_0, .int v2_0]) (rest := []) (ws2 := fun u => wModel k a_th th_5) (c_X9_fine0 n l k a_th th_5 v1_0 v2_0 r_7 hg) E vl_X9_244 dX9_fine_34 rfl [0, 1, 2, 3, 4, 5, 6, 7, 8, 9, 10, 11, 12] 7 0 hW hA hl rfl rfl rfl rfl ⟨by decide, by decide⟩ ⟨by decide, by decide⟩ (Nat.le_of_ble_eq_true rfl) rfl (fun _ => rfl) (fun _ => rfl) (fun r u H locs hp hW => ?_)
      cases hp
      have hW : WD k A s.heap (wModel k a_th th_5) H locs := hW
      exact hret _ th_5 _ _ _ _ _ _ hW (Option.some.inj hf).symm rfl (by decide) (by decide) dX9_fine_37
    · have hf := oT hc hf
      refine lv_iconst (v := (0 : Int32)) E.hx E.hb dX9_fine_29 ic_0 ?_
      exact hret _ th_5 _ _ _ _ _ _ hW (Option.some.inj hf).symm rfl (by decide) (by decide) dX9_fine_30
def f_X9_evidence (n : Nat) (th_0 : OS) (v1_0 : Int32) : Option (OS × Int32) :=
  bnd (f_X9_isKnown n th_0 v1_0) (fun (r_1 : Int32) =>
  bnd2 (f_X9_is n th_0 r_1) (fun (th_2 : OS) (r_3 : Int32) =>
  if r_3 = 0 then (
  some (th_2, (0 : Int32))) else (
  bnd (f_X9_evidenceFor n th_2 v1_0) (fun (r_4 : Int32) =>
  some (th_2, r_4)))))
set_option maxHeartbeats 4000000 in
set_option maxRecDepth 100000 in
theorem c_X9_evidence (n : Nat) (l : Launch) (k : KT) (a_th : Nat → Nat) (th_0 : OS) (v1_0 : Int32) (res : (OS × Int32)) (hf : f_X9_evidence n th_0 v1_0 = some res) : CG l k yX9_evidence cX9_evidence 2 (some .int) 3 0 0 66 [.ref (a_th 0), .int v1_0] (wModel k a_th th_0) (Qi k (fun u : OS => wModel k a_th u) (fun (r : Int32) (u : OS) => res = (u, r))) := by
  refine CG.ofI (by decide) (Nat.le_of_ble_eq_true rfl) (fun p e s m args below meth c A Q E hnm hW hA hret ls hl => ?_)
  have hl : lv_has ls 2 [(0, .ref (a_th 0)), (1, .int v1_0)] := hl
  unfold f_X9_evidence at hf
  refine k_aload_n E hl 0 dX9_evidence_0 rfl ?_
  refine k_aload_n E hl 0 dX9_evidence_1 rfl ?_
  refine k_iload_n E hl 1 dX9_evidence_2 rfl ?_
  obtain ⟨r_1, hg, hf⟩ := ob hf
  refine k_callVi (As := [.int v1_0]) (rest := [.ref (a_th 0)]) (ws2 := fun u => wModel k a_th th_0) (c_X9_isKnown n l k a_th th_0 v1_0 r_1 hg) E vl_X9_260 dX9_evidence_3 rfl [0, 1, 2, 3, 4, 5, 6, 7, 8, 9, 10, 11, 12] 7 0 hW hA hl rfl rfl rfl rfl ⟨by decide, by decide⟩ ⟨by decide, by decide⟩ (Nat.le_of_ble_eq_true rfl) rfl (fun _ => rfl) (fun _ => rfl) (fun r u H locs hp hW => ?_)
  cases hp
  have hW : WD k A s.heap (wModel k a_th th_0) H locs := hW
  obtain ⟨th_2, r_3, hg, hf⟩ := ob2 hf
  refine k_callVi (As := [.int r_1]) (rest := []) (ws2 := fun u => wModel k a_th (u)) (c_X9_is n l k a_th th_0 r_1 (th_2, r_3) hg) E vl_X9_77 dX9_evidence_6 rfl [0, 1, 2, 3, 4, 5, 6, 7, 8, 9, 10, 11, 12] 7 0 hW hA hl rfl rfl rfl rfl ⟨by decide, by decide⟩ ⟨by decide, by decide⟩ (Nat.le_of_ble_eq_true rfl) rfl (fun _ => rfl) (fun _ => rfl) (fun r u H locs hp hW => ?_)
  cases hp
  have hW : WD k A s.heap (wModel k a_th th_2) H locs := hW
  refine lv_if_eq (tgt := 20) E.hx E.hb dX9_evidence_9 (by decide) (fun hc => ?_) (fun hc => ?_)
  · have hf := oT hc hf
    refine lv_iconst (v := (0 : Int32)) E.hx E.hb dX9_evidence_20 ic_0 ?_
    exact hret _ th_2 _ _ _ _ _ _ hW (Option.some.inj hf).symm rfl (by decide) (by decide) dX9_evidence_21
  · have hf := oF hc hf
    refine k_aload_n E hl 0 dX9_evidence_12 rfl ?_
    refine k_iload_n E hl 1 dX9_evidence_13 rfl ?_
    obtain ⟨r_4, hg, hf⟩ := ob hf
    refine k_callVi (As := [.int v1_0]) (rest := []) (ws2 := fun u => wModel k a_th th_2) (c_X9_evidenceFor n l k a_th th_2 v1_0 r_4 hg) E vl_X9_257 dX9_evidence_14 rfl [0, 1, 2, 3, 4, 5, 6, 7, 8, 9, 10, 11, 12] 7 0 hW hA hl rfl rfl rfl rfl ⟨by decide, by decide⟩ ⟨by decide, by decide⟩ (Nat.le_of_ble_eq_true rfl) rfl (fun _ => rfl) (fun _ => rfl) (fun r u H locs hp hW => ?_)
    cases hp
    have hW : WD k A s.heap (wModel k a_th th_2) H locs := hW
    refine lv_goto (tgt := 21) E.hx E.hb dX9_evidence_17 (by decide) ?_
    exact hret _ th_2 _ _ _ _ _ _ hW (Option.some.inj hf).symm rfl (by decide) (by decide) dX9_evidence_21
def f_X9_wasStalled (n : Nat) (th_0 : OS) (v1_0 : Int32) (v2_0 : Int32) : Option (OS × Int32) :=
  bnd (f_X9_isProcess n th_0 v1_0) (fun (r_1 : Int32) =>
  bnd2 (f_X9_is n th_0 r_1) (fun (th_2 : OS) (r_3 : Int32) =>
  if r_3 = 0 then (
  some (th_2, (0 : Int32))) else (
  gI 1846 (0 : Int32) (Let ((th_2.2.1 9) (0 : Int32).toNatClampNeg) (fun x_4 : Int32 =>
  bnd (f_X9_isIn n ((v2_0).toInt64) (1 : Int64) ((x_4).toInt64)) (fun (r_5 : Int32) =>
  if r_5 = 0 then (
  some (th_2, (0 : Int32))) else (
  bnd (f_X9_wasStalledIn n th_2 v1_0 v2_0) (fun (r_6 : Int32) =>
  if r_6 = 0 then (
  some (th_2, (0 : Int32))) else (
  some (th_2, (1 : Int32)))))))))))
set_option maxHeartbeats 4000000 in
set_option maxRecDepth 100000 in
theorem c_X9_wasStalled (n : Nat) (l : Launch) (k : KT) (a_th : Nat → Nat) (th_0 : OS) (v1_0 : Int32) (v2_0 : Int32) (res : (OS × Int32)) (hf : f_X9_wasStalled n th_0 v1_0 v2_0 = some res) : CG l k yX9_wasStalled cX9_wasStalled 3 (some .boolean) 2 0 0 46 [.ref (a_th 0), .int v1_0, .int v2_0] (wModel k a_th th_0) (Qi k (fun u : OS => wModel k a_th u) (fun (r : Int32) (u : OS) => res = (u, r))) := by
  refine CG.ofI (by decide) (Nat.le_of_ble_eq_true rfl) (fun p e s m args below meth c A Q E hnm hW hA hret ls hl => ?_)
  have hl : lv_has ls 3 [(0, .ref (a_th 0)), (1, .int v1_0), (2, .int v2_0)] := hl
  unfold f_X9_wasStalled at hf
  refine k_aload_n E hl 0 dX9_wasStalled_0 rfl ?_
  refine k_aload_n E hl 0 dX9_wasStalled_1 rfl ?_
  refine k_iload_n E hl 1 dX9_wasStalled_2 rfl ?_
  obtain ⟨r_1, hg, hf⟩ := ob hf
  refine k_callVi (As := [.int v1_0]) (rest := [.ref (a_th 0)]) (ws2 := fun u => wModel k a_th th_0) (c_X9_isProcess n l k a_th th_0 v1_0 r_1 hg) E vl_X9_223 dX9_wasStalled_3 rfl [0, 1, 2, 3, 4, 5, 6, 7, 8, 9, 10, 11, 12] 7 0 hW hA hl rfl rfl rfl rfl ⟨by decide, by decide⟩ ⟨by decide, by decide⟩ (Nat.le_of_ble_eq_true rfl) rfl (fun _ => rfl) (fun _ => rfl) (fun r u H locs hp hW => ?_)
  cases hp
  have hW : WD k A s.heap (wModel k a_th th_0) H locs := hW
  obtain ⟨th_2, r_3, hg, hf⟩ := ob2 hf
  refine k_callVi (As := [.int r_1]) (rest := []) (ws2 := fun u => wModel k a_th (u)) (c_X9_is n l k a_th th_0 r_1 (th_2, r_3) hg) E vl_X9_77 dX9_wasStalled_6 rfl [0, 1, 2, 3, 4, 5, 6, 7, 8, 9, 10, 11, 12] 7 0 hW hA hl rfl rfl rfl rfl ⟨by decide, by decide⟩ ⟨by decide, by decide⟩ (Nat.le_of_ble_eq_true rfl) rfl (fun _ => rfl) (fun _ => rfl) (fun r u H locs hp hW => ?_)
  cases hp
  have hW : WD k A s.heap (wModel k a_th th_2) H locs := hW
  refine lv_if_eq (tgt := 41) E.hx E.hb dX9_wasStalled_9 (by decide) (fun hc => ?_) (fun hc => ?_)
  · have hf := oT hc hf
    refine lv_iconst (v := (0 : Int32)) E.hx E.hb dX9_wasStalled_41 ic_0 ?_
    exact hret _ th_2 _ _ _ _ _ _ hW (Option.some.inj hf).symm (by decide) (by decide) (by decide) dX9_wasStalled_42
  · have hf := oF hc hf
    refine k_iload_n E hl 2 dX9_wasStalled_12 rfl ?_
    refine lv_i2l (v := (v2_0).toInt64) E.hx E.hb dX9_wasStalled_13 rfl ?_
    refine lv_lconst (v := (1 : Int64)) E.hx E.hb dX9_wasStalled_14 (by decide) ?_
    refine k_aload_n E hl 0 dX9_wasStalled_15 rfl ?_
    refine gf_X9_13 E hW 0 rfl rfl dX9_wasStalled_16 ?_
    refine lv_iconst (v := (0 : Int32)) E.hx E.hb dX9_wasStalled_19 ic_0 ?_
    obtain ⟨hin, hf⟩ := oI hf
    obtain ⟨x_4, ex_4, hf⟩ := oL hf
    refine k_iald E hW 2 rfl hin dX9_wasStalled_20 ?_
    refine k_topi ex_4 ?_
    refine lv_i2l (v := (x_4).toInt64) E.hx E.hb dX9_wasStalled_21 rfl ?_
    obtain ⟨r_5, hg, hf⟩ := ob hf
    refine k_callSi (As := [.long ((v2_0).toInt64), .long (1 : Int64), .long ((x_4).toInt64)]) (rest := []) (ws2 := fun u => wModel k a_th th_2) (c_X9_isIn n l k ((v2_0).toInt64) (1 : Int64) ((x_4).toInt64) r_5 hg) E sl_X9_92 dX9_wasStalled_22 rfl [] hW hA hl rfl rfl ⟨by decide, by decide⟩ ⟨by decide, by decide⟩ (Nat.le_of_ble_eq_true rfl) rfl (fun _ => rfl) (fun _ => rfl) (fun r u H locs hp hW => ?_)
    cases hp
    have hW : WD k A s.heap (wModel k a_th th_2) H locs := hW
    refine lv_if_eq (tgt := 41) E.hx E.hb dX9_wasStalled_25 (by decide) (fun hc => ?_) (fun hc => ?_)
    · have hf := oT hc hf
      refine lv_iconst (v := (0 : Int32)) E.hx E.hb dX9_wasStalled_41 ic_0 ?_
      exact hret _ th_2 _ _ _ _ _ _ hW (Option.some.inj hf).symm (by decide) (by decide) (by decide) dX9_wasStalled_42
    · have hf := oF hc hf
      refine k_aload_n E hl 0 dX9_wasStalled_28 rfl ?_
      refine k_iload_n E hl 1 dX9_wasStalled_29 rfl ?_
      refine k_iload_n E hl 2 dX9_wasStalled_30 rfl ?_
      obtain ⟨r_6, hg, hf⟩ := ob hf
      refine k_callVi (As := [.int v1_0, .int v2_0]) (rest := []) (ws2 := fun u => wModel k a_th th_2) (c_X9_wasStalledIn n l k a_th th_2 v1_0 v2_0 r_6 hg) E vl_X9_247 dX9_wasStalled_31 rfl [0, 1, 2, 3, 4, 5, 6, 7, 8, 9, 10, 11, 12] 7 0 hW hA hl rfl rfl rfl rfl ⟨by decide, by decide⟩ ⟨by decide, by decide⟩ (Nat.le_of_ble_eq_true rfl) rfl (fun _ => rfl) (fun _ => rfl) (fun r u H locs hp hW => ?_)
      cases hp
      have hW : WD k A s.heap (wModel k a_th th_2) H locs := hW
      refine lv_if_eq (tgt := 41) E.hx E.hb dX9_wasStalled_34 (by decide) (fun hc => ?_) (fun hc => ?_)
      · have hf := oT hc hf
        refine lv_iconst (v := (0 : Int32)) E.hx E.hb dX9_wasStalled_41 ic_0 ?_
        exact hret _ th_2 _ _ _ _ _ _ hW (Option.some.inj hf).symm (by decide) (by decide) (by decide) dX9_wasStalled_42
      · have hf := oF hc hf
        refine lv_iconst (v := (1 : Int32)) E.hx E.hb dX9_wasStalled_37 ic_1 ?_
        refine lv_goto (tgt := 42) E.hx E.hb dX9_wasStalled_38 (by decide) ?_
        exact hret _ th_2 _ _ _ _ _ _ hW (Option.some.inj hf).symm (by decide) (by decide) (by decide) dX9_wasStalled_42
def f_X9_nextHearing (n : Nat) (th_0 : OS) : Option (OS × Int32) :=
  Let (sI th_0 0 (0 : Int32)) (fun th_1 : OS =>
  bnd (f_X9_timeOfHearing n th_1) (fun (r_2 : Int32) =>
  some (th_1, r_2)))
set_option maxHeartbeats 4000000 in
set_option maxRecDepth 100000 in
theorem c_X9_nextHearing (n : Nat) (l : Launch) (k : KT) (a_th : Nat → Nat) (th_0 : OS) (res : (OS × Int32)) (hf : f_X9_nextHearing n th_0 = some res) : CG l k yX9_nextHearing cX9_nextHearing 1 (some .int) 1 0 0 21 [.ref (a_th 0)] (wModel k a_th th_0) (Qi k (fun u : OS => wModel k a_th u) (fun (r : Int32) (u : OS) => res = (u, r))) := by
  refine CG.ofI (by decide) (Nat.le_of_ble_eq_true rfl) (fun p e s m args below meth c A Q E hnm hW hA hret ls hl => ?_)
  have hl : lv_has ls 1 [(0, .ref (a_th 0))] := hl
  unfold f_X9_nextHearing at hf
  refine k_aload_n E hl 0 dX9_nextHearing_0 rfl ?_
  refine lv_iconst (v := (0 : Int32)) E.hx E.hb dX9_nextHearing_1 ic_0 ?_
  obtain ⟨th_1, eth_1, hf⟩ := oL hf
  refine pf_X9_67 (ws2 := wModel k a_th th_1) E hW 0 rfl rfl rfl (Nat.le_of_ble_eq_true rfl) dX9_nextHearing_2 (by rw [eth_1]; rfl) (fun H locs hW => ?_)
  refine k_aload_n E hl 0 dX9_nextHearing_5 rfl ?_
  obtain ⟨r_2, hg, hf⟩ := ob hf
  refine k_callVi (As := []) (rest := []) (ws2 := fun u => wModel k a_th th_1) (c_X9_timeOfHearing n l k a_th th_1 r_2 hg) E vl_X9_297 dX9_nextHearing_6 rfl [0, 1, 2, 3, 4, 5, 6, 7, 8, 9, 10, 11, 12] 7 0 hW hA hl rfl rfl rfl rfl ⟨by decide, by decide⟩ ⟨by decide, by decide⟩ (Nat.le_of_ble_eq_true rfl) rfl (fun _ => rfl) (fun _ => rfl) (fun r u H locs hp hW => ?_)
  cases hp
  have hW : WD k A s.heap (wModel k a_th th_1) H locs := hW
  exact hret _ th_1 _ _ _ _ _ _ hW (Option.some.inj hf).symm rfl (by decide) (by decide) dX9_nextHearing_9
def j_X9_shortage_43 (n : Nat) (th_j43 : OS) (w1_j43 : Int32) : Option (OS × Int32) :=
  bnd (f_X9_free n th_j43) (fun (r_3 : Int32) =>
  bnd (f_X9_greater n (0 : Int32) (w1_j43 - r_3)) (fun (r_4 : Int32) =>
  some (th_j43, r_4)))
def s_X9_shortage_9 (n : Nat) (rc_9 : (OS) → (Int32) → (Int32) → Option (OS × Int32)) (th_j9 : OS) (w1_j9 : Int32) (w2_j9 : Int32) : Option (OS × Int32) :=
  gI 1846 (7 : Int32) (Let ((th_j9.2.1 9) (7 : Int32).toNatClampNeg) (fun x_2 : Int32 =>
  if x_2 ≤ w2_j9 then (
  j_X9_shortage_43 n th_j9 w1_j9) else (
  bnd (f_X9_doesWait n th_j9 w2_j9) (fun (r_5 : Int32) =>
  if r_5 = 0 then (
  Let (w2_j9 + (1 : Int32)) (fun v2_6 : Int32 =>
  rc_9 th_j9 w1_j9 v2_6)) else (
  bnd (f_X9_claim0 n th_j9 w2_j9 (1 : Int32)) (fun (r_7 : Int32) =>
  Let (w1_j9 + r_7) (fun v1_8 : Int32 =>
  Let (w2_j9 + (1 : Int32)) (fun v2_9 : Int32 =>
  rc_9 th_j9 v1_8 v2_9))))))))
def l_X9_shortage_9 (n : Nat) : Nat → (OS) → (Int32) → (Int32) → Option (OS × Int32)
  | 0 => fun _ _ _ => none
  | N + 1 => s_X9_shortage_9 n (l_X9_shortage_9 n N)
def f_X9_shortage (n : Nat) (th_0 : OS) : Option (OS × Int32) :=
  Let (sI th_0 0 (0 : Int32)) (fun th_1 : OS =>
  l_X9_shortage_9 n n th_1 (0 : Int32) (0 : Int32))
set_option maxHeartbeats 4000000 in
set_option maxRecDepth 100000 in
theorem c_X9_shortage (n : Nat) (l : Launch) (k : KT) (a_th : Nat → Nat) (th_0 : OS) (res : (OS × Int32)) (hf : f_X9_shortage n th_0 = some res) : CG l k yX9_shortage cX9_shortage 3 (some .int) 2 0 0 43 [.ref (a_th 0)] (wModel k a_th th_0) (Qi k (fun u : OS => wModel k a_th u) (fun (r : Int32) (u : OS) => res = (u, r))) := by
  refine CG.ofI (by decide) (Nat.le_of_ble_eq_true rfl) (fun p e s m args below meth c A Q E hnm hW hA hret ls hl => ?_)
  have hl : lv_has ls 3 [(0, .ref (a_th 0))] := hl
  unfold f_X9_shortage at hf
  refine k_aload_n E hl 0 dX9_shortage_0 rfl ?_
  refine lv_iconst (v := (0 : Int32)) E.hx E.hb dX9_shortage_1 ic_0 ?_
  obtain ⟨th_1, eth_1, hf⟩ := oL hf
  refine pf_X9_67 (ws2 := wModel k a_th th_1) E hW 0 rfl rfl rfl (Nat.le_of_ble_eq_true rfl) dX9_shortage_2 (by rw [eth_1]; rfl) (fun H locs hW => ?_)
  refine lv_iconst (v := (0 : Int32)) E.hx E.hb dX9_shortage_5 ic_0 ?_
  refine k_istore_n (lv' := [(1, .int (0 : Int32)), (0, .ref (a_th 0))]) E rfl hl dX9_shortage_6 rfl (by decide) rfl (fun ls hl => ?_)
  refine lv_iconst (v := (0 : Int32)) E.hx E.hb dX9_shortage_7 ic_0 ?_
  refine k_istore_n (lv' := [(2, .int (0 : Int32)), (1, .int (0 : Int32)), (0, .ref (a_th 0))]) E rfl hl dX9_shortage_8 rfl (by decide) rfl (fun ls hl => ?_)
  have L_9 : ∀ (N_9 : Nat) (th_j9 : OS) (w1_j9 : Int32) (w2_j9 : Int32) (H : Heap) (locs : List Loc) (ls : Array Slot) (hW : WD k A s.heap (wModel k a_th th_j9) H locs) (hl : lv_has ls 3 [(0, .ref (a_th 0)), (1, .int w1_j9), (2, .int w2_j9)]) (hf : l_X9_shortage_9 n N_9 th_j9 w1_j9 w2_j9 = some res), W p l e { frames := 2, cells := 0, slots := 0, locals := 43 } s m args below meth c H locs 0 0 Q (F0 m 9 ls []) := by
    intro N_9
    induction N_9 with
    | zero => intro th_j9 w1_j9 w2_j9 H locs ls hW hl hf; exact o0 hf
    | succ N_9 ih_9 =>
      intro th_j9 w1_j9 w2_j9 H locs ls hW hl hf
      have hf : s_X9_shortage_9 n  (l_X9_shortage_9 n N_9) th_j9 w1_j9 w2_j9 = some res := hf
      unfold s_X9_shortage_9 at hf
      refine k_iload_n E hl 2 dX9_shortage_9 rfl ?_
      refine k_aload_n E hl 0 dX9_shortage_10 rfl ?_
      refine gf_X9_13 E hW 0 rfl rfl dX9_shortage_11 ?_
      refine lv_bipush (v := (7 : Int32)) E.hx E.hb dX9_shortage_14 bp_7 ?_
      obtain ⟨hin, hf⟩ := oI hf
      obtain ⟨x_2, ex_2, hf⟩ := oL hf
      refine k_iald E hW 2 rfl hin dX9_shortage_16 ?_
      refine k_topi ex_2 ?_
      have J_43 : ∀ (th_j43 : OS) (w1_j43 : Int32) (H : Heap) (locs : List Loc) (ls : Array Slot) (hW : WD k A s.heap (wModel k a_th th_j43) H locs) (hl : lv_has ls 3 [(0, .ref (a_th 0)), (1, .int w1_j43)]) (hf : j_X9_shortage_43 n  th_j43 w1_j43 = some res), W p l e { frames := 2, cells := 0, slots := 0, locals := 43 } s m args below meth c H locs 0 0 Q (F0 m 43 ls []) := by
        intro th_j43 w1_j43 H locs ls hW hl hf
        unfold j_X9_shortage_43 at hf
        refine lv_iconst (v := (0 : Int32)) E.hx E.hb dX9_shortage_43 ic_0 ?_
        refine k_iload_n E hl 1 dX9_shortage_44 rfl ?_
        refine k_aload_n E hl 0 dX9_shortage_45 rfl ?_
        obtain ⟨r_3, hg, hf⟩ := ob hf
        refine k_callVi (As := []) (rest := [.int w1_j43, .int (0 : Int32)]) (ws2 := fun u => wModel k a_th th_j43) (c_X9_free n l k a_th th_j43 r_3 hg) E vl_X9_166 dX9_shortage_46 rfl [0, 1, 2, 3, 4, 5, 6, 7, 8, 9, 10, 11, 12] 7 0 hW hA hl rfl rfl rfl rfl ⟨by decide, by decide⟩ ⟨by decide, by decide⟩ (Nat.le_of_ble_eq_true rfl) rfl (fun _ => rfl) (fun _ => rfl) (fun r u H locs hp hW => ?_)
        cases hp
        have hW : WD k A s.heap (wModel k a_th th_j43) H locs := hW
        refine lv_isub E.hx E.hb dX9_shortage_49 ?_
        obtain ⟨r_4, hg, hf⟩ := ob hf
        refine k_callSi (As := [.int (0 : Int32), .int (w1_j43 - r_3)]) (rest := []) (ws2 := fun u => wModel k a_th th_j43) (c_X9_greater n l k (0 : Int32) (w1_j43 - r_3) r_4 hg) E sl_X9_96 dX9_shortage_50 rfl [] hW hA hl rfl rfl ⟨by decide, by decide⟩ ⟨by decide, by decide⟩ (Nat.le_of_ble_eq_true rfl) rfl (fun _ => rfl) (fun _ => rfl) (fun r u H locs hp hW => ?_)
        cases hp
        have hW : WD k A s.heap (wModel k a_th th_j43) H locs := hW
        exact hret _ th_j43 _ _ _ _ _ _ hW (Option.some.inj hf).symm rfl (by decide) (by decide) dX9_shortage_53
      refine lv_icmp_ge (tgt := 43) E.hx E.hb dX9_shortage_17 (by decide) (fun hc => ?_) (fun hc => ?_)
      · have hf := oT hc hf
        exact J_43 th_j9 w1_j9 _ _ _ hW (lv_sub hl [0, 1] rfl) hf
      · have hf := oF hc hf
        refine k_aload_n E hl 0 dX9_shortage_20 rfl ?_
        refine k_iload_n E hl 2 dX9_shortage_21 rfl ?_
        obtain ⟨r_5, hg, hf⟩ := ob hf
        refine k_callVi (As := [.int w2_j9]) (rest := []) (ws2 := fun u => wModel k a_th th_j9) (c_X9_doesWait n l k a_th th_j9 w2_j9 r_5 hg) E vl_X9_142 dX9_shortage_22 rfl [0, 1, 2, 3, 4, 5, 6, 7, 8, 9, 10, 11, 12] 7 0 hW hA hl rfl rfl rfl rfl ⟨by decide, by decide⟩ ⟨by decide, by decide⟩ (Nat.le_of_ble_eq_true rfl) rfl (fun _ => rfl) (fun _ => rfl) (fun r u H locs hp hW => ?_)
        cases hp
        have hW : WD k A s.heap (wModel k a_th th_j9) H locs := hW
        refine lv_if_eq (tgt := 37) E.hx E.hb dX9_shortage_25 (by decide) (fun hc => ?_) (fun hc => ?_)
        · have hf := oT hc hf
          obtain ⟨v2_6, ev2_6, hf⟩ := oL hf
          refine k_iinc (lv' := [(2, .int v2_6), (0, .ref (a_th 0)), (1, .int w1_j9)]) E hl 2 dX9_shortage_37 rfl (ev2_6.trans (congrArg (fun z => w2_j9 + z) ic_1.symm)) (by decide) rfl (fun ls hl => ?_)
          refine lv_goto (tgt := 9) E.hx E.hb dX9_shortage_40 (by decide) ?_
          exact ih_9 th_j9 w1_j9 v2_6 _ _ _ hW (lv_sub hl [1, 2, 0] rfl) hf
        · have hf := oF hc hf
          refine k_iload_n E hl 1 dX9_shortage_28 rfl ?_
          refine k_aload_n E hl 0 dX9_shortage_29 rfl ?_
          refine k_iload_n E hl 2 dX9_shortage_30 rfl ?_
          refine lv_iconst (v := (1 : Int32)) E.hx E.hb dX9_shortage_31 ic_1 ?_
          obtain ⟨r_7, hg, hf⟩ := ob hf
          refine k_callVi (As := [.int w2_j9, .int (1 : Int32)]) (rest := [.int w1_j9]) (ws2 := fun u => wModel k a_th th_j9) (c_X9_claim0 n l k a_th th_j9 w2_j9 (1 : Int32) r_7 hg) E vl_X9_139 dX9_shortage_32 rfl [0, 1, 2, 3, 4, 5, 6, 7, 8, 9, 10, 11, 12] 7 0 hW hA hl rfl rfl rfl rfl ⟨by decide, by decide⟩ ⟨by decide, by decide⟩ (Nat.le_of_ble_eq_true rfl) rfl (fun _ => rfl) (fun _ => rfl) (fun r u H locs hp hW => ?_)
          cases hp
          have hW : WD k A s.heap (wModel k a_th th_j9) H locs := hW
          refine lv_iadd E.hx E.hb dX9_shortage_35 ?_
          obtain ⟨v1_8, ev1_8, hf⟩ := oL hf
          refine k_istore_n (lv' := [(1, .int v1_8), (0, .ref (a_th 0)), (2, .int w2_j9)]) E ev1_8 hl dX9_shortage_36 rfl (by decide) rfl (fun ls hl => ?_)
          obtain ⟨v2_9, ev2_9, hf⟩ := oL hf
          refine k_iinc (lv' := [(2, .int v2_9), (1, .int v1_8), (0, .ref (a_th 0))]) E hl 2 dX9_shortage_37 rfl (ev2_9.trans (congrArg (fun z => w2_j9 + z) ic_1.symm)) (by decide) rfl (fun ls hl => ?_)
          refine lv_goto (tgt := 9) E.hx E.hb dX9_shortage_40 (by decide) ?_
          exact ih_9 th_j9 v1_8 v2_9 _ _ _ hW (lv_sub hl [2, 1, 0] rfl) hf
  exact L_9 n th_1 (0 : Int32) (0 : Int32) _ _ _ hW (lv_sub hl [2, 1, 0] rfl) hf
def f_X9_overdue (n : Nat) (th_0 : OS) : Option (OS × Int32) :=
  Let (sI th_0 0 (0 : Int32)) (fun th_1 : OS =>
  bnd (f_X9_brokenPages n th_1) (fun (r_2 : Int32) =>
  some (th_1, r_2)))
set_option maxHeartbeats 4000000 in
set_option maxRecDepth 100000 in
theorem c_X9_overdue (n : Nat) (l : Launch) (k : KT) (a_th : Nat → Nat) (th_0 : OS) (res : (OS × Int32)) (hf : f_X9_overdue n th_0 = some res) : CG l k yX9_overdue cX9_overdue 1 (some .int) 3 0 0 66 [.ref (a_th 0)] (wModel k a_th th_0) (Qi k (fun u : OS => wModel k a_th u) (fun (r : Int32) (u : OS) => res = (u, r))) := by
  refine CG.ofI (by decide) (Nat.le_of_ble_eq_true rfl) (fun p e s m args below meth c A Q E hnm hW hA hret ls hl => ?_)
  have hl : lv_has ls 1 [(0, .ref (a_th 0))] := hl
  unfold f_X9_overdue at hf
  refine k_aload_n E hl 0 dX9_overdue_0 rfl ?_
  refine lv_iconst (v := (0 : Int32)) E.hx E.hb dX9_overdue_1 ic_0 ?_
  obtain ⟨th_1, eth_1, hf⟩ := oL hf
  refine pf_X9_67 (ws2 := wModel k a_th th_1) E hW 0 rfl rfl rfl (Nat.le_of_ble_eq_true rfl) dX9_overdue_2 (by rw [eth_1]; rfl) (fun H locs hW => ?_)
  refine k_aload_n E hl 0 dX9_overdue_5 rfl ?_
  obtain ⟨r_2, hg, hf⟩ := ob hf
  refine k_callVi (As := []) (rest := []) (ws2 := fun u => wModel k a_th th_1) (c_X9_brokenPages n l k a_th th_1 r_2 hg) E vl_X9_169 dX9_overdue_6 rfl [0, 1, 2, 3, 4, 5, 6, 7, 8, 9, 10, 11, 12] 7 0 hW hA hl rfl rfl rfl rfl ⟨by decide, by decide⟩ ⟨by decide, by decide⟩ (Nat.le_of_ble_eq_true rfl) rfl (fun _ => rfl) (fun _ => rfl) (fun r u H locs hp hW => ?_)
  cases hp
  have hW : WD k A s.heap (wModel k a_th th_1) H locs := hW
  exact hret _ th_1 _ _ _ _ _ _ hW (Option.some.inj hf).symm rfl (by decide) (by decide) dX9_overdue_9
def f_X9_firstBroken (n : Nat) (th_0 : OS) : Option (OS × Int32) :=
  Let (sI th_0 0 (0 : Int32)) (fun th_1 : OS =>
  bnd (f_X9_earliestBroken n th_1) (fun (r_2 : Int32) =>
  some (th_1, r_2)))
set_option maxHeartbeats 4000000 in
set_option maxRecDepth 100000 in
theorem c_X9_firstBroken (n : Nat) (l : Launch) (k : KT) (a_th : Nat → Nat) (th_0 : OS) (res : (OS × Int32)) (hf : f_X9_firstBroken n th_0 = some res) : CG l k yX9_firstBroken cX9_firstBroken 1 (some .int) 3 0 0 66 [.ref (a_th 0)] (wModel k a_th th_0) (Qi k (fun u : OS => wModel k a_th u) (fun (r : Int32) (u : OS) => res = (u, r))) := by
  refine CG.ofI (by decide) (Nat.le_of_ble_eq_true rfl) (fun p e s m args below meth c A Q E hnm hW hA hret ls hl => ?_)
  have hl : lv_has ls 1 [(0, .ref (a_th 0))] := hl
  unfold f_X9_firstBroken at hf
  refine k_aload_n E hl 0 dX9_firstBroken_0 rfl ?_
  refine lv_iconst (v := (0 : Int32)) E.hx E.hb dX9_firstBroken_1 ic_0 ?_
  obtain ⟨th_1, eth_1, hf⟩ := oL hf
  refine pf_X9_67 (ws2 := wModel k a_th th_1) E hW 0 rfl rfl rfl (Nat.le_of_ble_eq_true rfl) dX9_firstBroken_2 (by rw [eth_1]; rfl) (fun H locs hW => ?_)
  refine k_aload_n E hl 0 dX9_firstBroken_5 rfl ?_
  obtain ⟨r_2, hg, hf⟩ := ob hf
  refine k_callVi (As := []) (rest := []) (ws2 := fun u => wModel k a_th th_1) (c_X9_earliestBroken n l k a_th th_1 r_2 hg) E vl_X9_151 dX9_firstBroken_6 rfl [0, 1, 2, 3, 4, 5, 6, 7, 8, 9, 10, 11, 12] 7 0 hW hA hl rfl rfl rfl rfl ⟨by decide, by decide⟩ ⟨by decide, by decide⟩ (Nat.le_of_ble_eq_true rfl) rfl (fun _ => rfl) (fun _ => rfl) (fun r u H locs hp hW => ?_)
  cases hp
  have hW : WD k A s.heap (wModel k a_th th_1) H locs := hW
  exact hret _ th_1 _ _ _ _ _ _ hW (Option.some.inj hf).symm rfl (by decide) (by decide) dX9_firstBroken_9
def j_X9_worst_38 (n : Nat) (rc_9 : (OS) → (Int32) → (Int32) → Option (OS × Int32)) (th_j38 : OS) (w1_j38 : Int32) (w2_j38 : Int32) (s0_j38 : Int32) (s1_j38 : Int32) : Option (OS × Int32) :=
  if s0_j38 ≤ s1_j38 then (
  Let (w2_j38 + (1 : Int32)) (fun v2_3 : Int32 =>
  rc_9 th_j38 w1_j38 v2_3)) else (
  Let (w2_j38 + (1 : Int32)) (fun v2_4 : Int32 =>
  rc_9 th_j38 w2_j38 v2_4))
def s_X9_worst_9 (n : Nat) (rc_9 : (OS) → (Int32) → (Int32) → Option (OS × Int32)) (th_j9 : OS) (w1_j9 : Int32) (w2_j9 : Int32) : Option (OS × Int32) :=
  if (th_j9.1 2) ≤ w2_j9 then (
  some (th_j9, w1_j9)) else (
  bnd (f_X9_process0 n th_j9 w2_j9 (0 : Int32)) (fun (r_2 : Int32) =>
  if w1_j9 = (-1 : Int32) then (
  j_X9_worst_38 n rc_9 th_j9 w1_j9 w2_j9 r_2 (0 : Int32)) else (
  bnd (f_X9_process0 n th_j9 w1_j9 (0 : Int32)) (fun (r_5 : Int32) =>
  j_X9_worst_38 n rc_9 th_j9 w1_j9 w2_j9 r_2 r_5))))
def l_X9_worst_9 (n : Nat) : Nat → (OS) → (Int32) → (Int32) → Option (OS × Int32)
  | 0 => fun _ _ _ => none
  | N + 1 => s_X9_worst_9 n (l_X9_worst_9 n N)
def f_X9_worst (n : Nat) (th_0 : OS) : Option (OS × Int32) :=
  Let (sI th_0 0 (0 : Int32)) (fun th_1 : OS =>
  l_X9_worst_9 n n th_1 (-1 : Int32) (0 : Int32))
set_option maxHeartbeats 4000000 in
set_option maxRecDepth 100000 in
theorem c_X9_worst (n : Nat) (l : Launch) (k : KT) (a_th : Nat → Nat) (th_0 : OS) (res : (OS × Int32)) (hf : f_X9_worst n th_0 = some res) : CG l k yX9_worst cX9_worst 3 (some .int) 1 0 0 22 [.ref (a_th 0)] (wModel k a_th th_0) (Qi k (fun u : OS => wModel k a_th u) (fun (r : Int32) (u : OS) => res = (u, r))) := by
  refine CG.ofI (by decide) (Nat.le_of_ble_eq_true rfl) (fun p e s m args below meth c A Q E hnm hW hA hret ls hl => ?_)
  have hl : lv_has ls 3 [(0, .ref (a_th 0))] := hl
  unfold f_X9_worst at hf
  refine k_aload_n E hl 0 dX9_worst_0 rfl ?_
  refine lv_iconst (v := (0 : Int32)) E.hx E.hb dX9_worst_1 ic_0 ?_
  obtain ⟨th_1, eth_1, hf⟩ := oL hf
  refine pf_X9_67 (ws2 := wModel k a_th th_1) E hW 0 rfl rfl rfl (Nat.le_of_ble_eq_true rfl) dX9_worst_2 (by rw [eth_1]; rfl) (fun H locs hW => ?_)
  refine lv_iconst (v := (-1 : Int32)) E.hx E.hb dX9_worst_5 ic_m1 ?_
  refine k_istore_n (lv' := [(1, .int (-1 : Int32)), (0, .ref (a_th 0))]) E rfl hl dX9_worst_6 rfl (by decide) rfl (fun ls hl => ?_)
  refine lv_iconst (v := (0 : Int32)) E.hx E.hb dX9_worst_7 ic_0 ?_
  refine k_istore_n (lv' := [(2, .int (0 : Int32)), (1, .int (-1 : Int32)), (0, .ref (a_th 0))]) E rfl hl dX9_worst_8 rfl (by decide) rfl (fun ls hl => ?_)
  have L_9 : ∀ (N_9 : Nat) (th_j9 : OS) (w1_j9 : Int32) (w2_j9 : Int32) (H : Heap) (locs : List Loc) (ls : Array Slot) (hW : WD k A s.heap (wModel k a_th th_j9) H locs) (hl : lv_has ls 3 [(0, .ref (a_th 0)), (1, .int w1_j9), (2, .int w2_j9)]) (hf : l_X9_worst_9 n N_9 th_j9 w1_j9 w2_j9 = some res), W p l e { frames := 1, cells := 0, slots := 0, locals := 22 } s m args below meth c H locs 0 0 Q (F0 m 9 ls []) := by
    intro N_9
    induction N_9 with
    | zero => intro th_j9 w1_j9 w2_j9 H locs ls hW hl hf; exact o0 hf
    | succ N_9 ih_9 =>
      intro th_j9 w1_j9 w2_j9 H locs ls hW hl hf
      have hf : s_X9_worst_9 n  (l_X9_worst_9 n N_9) th_j9 w1_j9 w2_j9 = some res := hf
      unfold s_X9_worst_9 at hf
      refine k_iload_n E hl 2 dX9_worst_9 rfl ?_
      refine k_aload_n E hl 0 dX9_worst_10 rfl ?_
      refine gf_X9_89 E hW 0 rfl rfl dX9_worst_11 ?_
      refine lv_icmp_ge (tgt := 49) E.hx E.hb dX9_worst_14 (by decide) (fun hc => ?_) (fun hc => ?_)
      · have hf := oT hc hf
        refine k_iload_n E hl 1 dX9_worst_49 rfl ?_
        exact hret _ th_j9 _ _ _ _ _ _ hW (Option.some.inj hf).symm rfl (by decide) (by decide) dX9_worst_50
      · have hf := oF hc hf
        refine k_aload_n E hl 0 dX9_worst_17 rfl ?_
        refine k_iload_n E hl 2 dX9_worst_18 rfl ?_
        refine lv_iconst (v := (0 : Int32)) E.hx E.hb dX9_worst_19 ic_0 ?_
        obtain ⟨r_2, hg, hf⟩ := ob hf
        refine k_callVi (As := [.int w2_j9, .int (0 : Int32)]) (rest := []) (ws2 := fun u => wModel k a_th th_j9) (c_X9_process0 n l k a_th th_j9 w2_j9 (0 : Int32) r_2 hg) E vl_X9_120 dX9_worst_20 rfl [0, 1, 2, 3, 4, 5, 6, 7, 8, 9, 10, 11, 12] 7 0 hW hA hl rfl rfl rfl rfl ⟨by decide, by decide⟩ ⟨by decide, by decide⟩ (Nat.le_of_ble_eq_true rfl) rfl (fun _ => rfl) (fun _ => rfl) (fun r u H locs hp hW => ?_)
        cases hp
        have hW : WD k A s.heap (wModel k a_th th_j9) H locs := hW
        refine k_iload_n E hl 1 dX9_worst_23 rfl ?_
        refine lv_iconst (v := (-1 : Int32)) E.hx E.hb dX9_worst_24 ic_m1 ?_
        have J_38 : ∀ (th_j38 : OS) (w1_j38 : Int32) (w2_j38 : Int32) (s0_j38 : Int32) (s1_j38 : Int32) (H : Heap) (locs : List Loc) (ls : Array Slot) (hW : WD k A s.heap (wModel k a_th th_j38) H locs) (hl : lv_has ls 3 [(0, .ref (a_th 0)), (1, .int w1_j38), (2, .int w2_j38)]) (hf : j_X9_worst_38 n (l_X9_worst_9 n N_9) th_j38 w1_j38 w2_j38 s0_j38 s1_j38 = some res), W p l e { frames := 1, cells := 0, slots := 0, locals := 22 } s m args below meth c H locs 0 0 Q (F0 m 38 ls [.int s1_j38, .int s0_j38]) := by
          intro th_j38 w1_j38 w2_j38 s0_j38 s1_j38 H locs ls hW hl hf
          unfold j_X9_worst_38 at hf
          refine lv_icmp_le (tgt := 43) E.hx E.hb dX9_worst_38 (by decide) (fun hc => ?_) (fun hc => ?_)
          · have hf := oT hc hf
            obtain ⟨v2_3, ev2_3, hf⟩ := oL hf
            refine k_iinc (lv' := [(2, .int v2_3), (0, .ref (a_th 0)), (1, .int w1_j38)]) E hl 2 dX9_worst_43 rfl (ev2_3.trans (congrArg (fun z => w2_j38 + z) ic_1.symm)) (by decide) rfl (fun ls hl => ?_)
            refine lv_goto (tgt := 9) E.hx E.hb dX9_worst_46 (by decide) ?_
            exact ih_9 th_j38 w1_j38 v2_3 _ _ _ hW (lv_sub hl [1, 2, 0] rfl) hf
          · have hf := oF hc hf
            refine k_iload_n E hl 2 dX9_worst_41 rfl ?_
            refine k_istore_n (lv' := [(1, .int w2_j38), (0, .ref (a_th 0)), (2, .int w2_j38)]) E rfl hl dX9_worst_42 rfl (by decide) rfl (fun ls hl => ?_)
            obtain ⟨v2_4, ev2_4, hf⟩ := oL hf
            refine k_iinc (lv' := [(2, .int v2_4), (1, .int w2_j38), (0, .ref (a_th 0))]) E hl 2 dX9_worst_43 rfl (ev2_4.trans (congrArg (fun z => w2_j38 + z) ic_1.symm)) (by decide) rfl (fun ls hl => ?_)
            refine lv_goto (tgt := 9) E.hx E.hb dX9_worst_46 (by decide) ?_
            exact ih_9 th_j38 w2_j38 v2_4 _ _ _ hW (lv_sub hl [2, 1, 0] rfl) hf
        refine lv_icmp_ne (tgt := 32) E.hx E.hb dX9_worst_25 (by decide) (fun hc => ?_) (fun hc => ?_)
        · have hf := oF hc hf
          refine k_aload_n E hl 0 dX9_worst_32 rfl ?_
          refine k_iload_n E hl 1 dX9_worst_33 rfl ?_
          refine lv_iconst (v := (0 : Int32)) E.hx E.hb dX9_worst_34 ic_0 ?_
          obtain ⟨r_5, hg, hf⟩ := ob hf
          refine k_callVi (As := [.int w1_j9, .int (0 : Int32)]) (rest := [.int r_2]) (ws2 := fun u => wModel k a_th th_j9) (c_X9_process0 n l k a_th th_j9 w1_j9 (0 : Int32) r_5 hg) E vl_X9_120 dX9_worst_35 rfl [0, 1, 2, 3, 4, 5, 6, 7, 8, 9, 10, 11, 12] 7 0 hW hA hl rfl rfl rfl rfl ⟨by decide, by decide⟩ ⟨by decide, by decide⟩ (Nat.le_of_ble_eq_true rfl) rfl (fun _ => rfl) (fun _ => rfl) (fun r u H locs hp hW => ?_)
          cases hp
          have hW : WD k A s.heap (wModel k a_th th_j9) H locs := hW
          exact J_38 th_j9 w1_j9 w2_j9 r_2 r_5 _ _ _ hW (lv_sub hl [0, 1, 2] rfl) hf
        · have hf := oT hc hf
          refine lv_iconst (v := (0 : Int32)) E.hx E.hb dX9_worst_28 ic_0 ?_
          refine lv_goto (tgt := 38) E.hx E.hb dX9_worst_29 (by decide) ?_
          exact J_38 th_j9 w1_j9 w2_j9 r_2 (0 : Int32) _ _ _ hW (lv_sub hl [0, 1, 2] rfl) hf
  exact L_9 n th_1 (-1 : Int32) (0 : Int32) _ _ _ hW (lv_sub hl [2, 1, 0] rfl) hf
