theorem tm_185 : (Jvm.Cond.fieldLink "MemoryCourt$Court" (65 : Nat) "MemoryCourt$Court" "line" "[I") ∈ lw_tbl := List.mem_of_getElem? (i := 185) (by decide +kernel)
theorem tm_589 : (Jvm.Cond.methodLink "MemoryCourt$Court" (126 : Nat) ({ cls := "MemoryCourt$Court", name := "waits", desc := "(I)Z" } : Jvm.MethodName)) ∈ lw_tbl := List.mem_of_getElem? (i := 589) (by decide +kernel)
theorem tm_590 : (Jvm.Cond.instanceMethod ({ cls := "MemoryCourt$Court", name := "waits", desc := "(I)Z" } : Jvm.MethodName)) ∈ lw_tbl := List.mem_of_getElem? (i := 590) (by decide +kernel)
theorem tm_591 : (Jvm.Cond.selects "MemoryCourt$Court" ({ cls := "MemoryCourt$Court", name := "waits", desc := "(I)Z" } : Jvm.MethodName) ({ cls := "MemoryCourt$Court", name := "waits", desc := "(I)Z" } : Jvm.MethodName)) ∈ lw_tbl := List.mem_of_getElem? (i := 591) (by decide +kernel)
theorem tm_592 : (Jvm.Cond.code ({ cls := "MemoryCourt$Court", name := "waits", desc := "(I)Z" } : Jvm.MethodName) prog_4_method_24_code (2 : Nat) (Option.some Jvm.ClassFile.FieldType.boolean)) ∈ lw_tbl := List.mem_of_getElem? (i := 592) (by decide +kernel)
theorem tm_593 : (Jvm.Cond.methodLink "MemoryCourt$Court" (129 : Nat) ({ cls := "MemoryCourt$Court", name := "rankOf", desc := "(I)I" } : Jvm.MethodName)) ∈ lw_tbl := List.mem_of_getElem? (i := 593) (by decide +kernel)
theorem tm_595 : (Jvm.Cond.instanceMethod ({ cls := "MemoryCourt$Court", name := "rankOf", desc := "(I)I" } : Jvm.MethodName)) ∈ lw_tbl := List.mem_of_getElem? (i := 595) (by decide +kernel)
theorem tms_10 : (Jvm.Cond.selects "MemoryCourt$Court" ({ cls := "MemoryCourt$Court", name := "rankOf", desc := "(I)I" } : Jvm.MethodName) ({ cls := "MemoryCourt$Court", name := "rankOf", desc := "(I)I" } : Jvm.MethodName)) ∈ lw_tbl := List.mem_of_getElem? (i := 10) (by decide +kernel)
theorem tm_596 : (Jvm.Cond.code ({ cls := "MemoryCourt$Court", name := "rankOf", desc := "(I)I" } : Jvm.MethodName) prog_4_method_29_code (2 : Nat) (Option.some Jvm.ClassFile.FieldType.int)) ∈ lw_tbl := List.mem_of_getElem? (i := 596) (by decide +kernel)
theorem tm_576 : (Jvm.Cond.methodLink "MemoryCourt$Court" (87 : Nat) ({ cls := "java/lang/Math", name := "max", desc := "(II)I" } : Jvm.MethodName)) ∈ lw_tbl := List.mem_of_getElem? (i := 576) (by decide +kernel)
theorem tm_77 : (Jvm.Cond.static ({ cls := "java/lang/Math", name := "max", desc := "(II)I" } : Jvm.MethodName)) ∈ lw_tbl := List.mem_of_getElem? (i := 77) (by decide +kernel)
theorem tm_78 : (Jvm.Cond.code ({ cls := "java/lang/Math", name := "max", desc := "(II)I" } : Jvm.MethodName) prog_24_method_65_code (2 : Nat) (Option.some Jvm.ClassFile.FieldType.int)) ∈ lw_tbl := List.mem_of_getElem? (i := 78) (by decide +kernel)
theorem tm_577 : (Jvm.Cond.methodLink "MemoryCourt$Court" (139 : Nat) ({ cls := "MemoryCourt$Court", name := "quotientUp", desc := "(II)I" } : Jvm.MethodName)) ∈ lw_tbl := List.mem_of_getElem? (i := 577) (by decide +kernel)
theorem tm_578 : (Jvm.Cond.static ({ cls := "MemoryCourt$Court", name := "quotientUp", desc := "(II)I" } : Jvm.MethodName)) ∈ lw_tbl := List.mem_of_getElem? (i := 578) (by decide +kernel)
theorem tm_579 : (Jvm.Cond.code ({ cls := "MemoryCourt$Court", name := "quotientUp", desc := "(II)I" } : Jvm.MethodName) prog_4_method_37_code (2 : Nat) (Option.some Jvm.ClassFile.FieldType.int)) ∈ lw_tbl := List.mem_of_getElem? (i := 579) (by decide +kernel)
theorem tm_580 : (Jvm.Cond.methodLink "MemoryCourt$Court" (172 : Nat) ({ cls := "java/lang/Math", name := "min", desc := "(II)I" } : Jvm.MethodName)) ∈ lw_tbl := List.mem_of_getElem? (i := 580) (by decide +kernel)
theorem tm_121 : (Jvm.Cond.fieldLinkNest "MemoryCourt$Court" (166 : Nat) "MemoryCourt$Rules" "base" "I" "MemoryCourt") ∈ lw_tbl := List.mem_of_getElem? (i := 121) (by decide +kernel)
theorem tm_572 : (Jvm.Cond.methodLink "MemoryCourt$Court" (169 : Nat) ({ cls := "MemoryCourt$Court", name := "fineFor", desc := "(II)I" } : Jvm.MethodName)) ∈ lw_tbl := List.mem_of_getElem? (i := 572) (by decide +kernel)
theorem tm_574 : (Jvm.Cond.instanceMethod ({ cls := "MemoryCourt$Court", name := "fineFor", desc := "(II)I" } : Jvm.MethodName)) ∈ lw_tbl := List.mem_of_getElem? (i := 574) (by decide +kernel)
theorem tms_8 : (Jvm.Cond.selects "MemoryCourt$Court" ({ cls := "MemoryCourt$Court", name := "fineFor", desc := "(II)I" } : Jvm.MethodName) ({ cls := "MemoryCourt$Court", name := "fineFor", desc := "(II)I" } : Jvm.MethodName)) ∈ lw_tbl := List.mem_of_getElem? (i := 8) (by decide +kernel)
theorem tm_575 : (Jvm.Cond.code ({ cls := "MemoryCourt$Court", name := "fineFor", desc := "(II)I" } : Jvm.MethodName) prog_4_method_41_code (9 : Nat) (Option.some Jvm.ClassFile.FieldType.int)) ∈ lw_tbl := List.mem_of_getElem? (i := 575) (by decide +kernel)
theorem tm_613 : (Jvm.Cond.methodLink "MemoryCourt$Court" (201 : Nat) ({ cls := "MemoryCourt$Court", name := "earliestBroken", desc := "()I" } : Jvm.MethodName)) ∈ lw_tbl := List.mem_of_getElem? (i := 613) (by decide +kernel)
theorem tm_614 : (Jvm.Cond.instanceMethod ({ cls := "MemoryCourt$Court", name := "earliestBroken", desc := "()I" } : Jvm.MethodName)) ∈ lw_tbl := List.mem_of_getElem? (i := 614) (by decide +kernel)
theorem tm_615 : (Jvm.Cond.selects "MemoryCourt$Court" ({ cls := "MemoryCourt$Court", name := "earliestBroken", desc := "()I" } : Jvm.MethodName) ({ cls := "MemoryCourt$Court", name := "earliestBroken", desc := "()I" } : Jvm.MethodName)) ∈ lw_tbl := List.mem_of_getElem? (i := 615) (by decide +kernel)
theorem tm_616 : (Jvm.Cond.code ({ cls := "MemoryCourt$Court", name := "earliestBroken", desc := "()I" } : Jvm.MethodName) prog_4_method_20_code (4 : Nat) (Option.some Jvm.ClassFile.FieldType.int)) ∈ lw_tbl := List.mem_of_getElem? (i := 616) (by decide +kernel)
theorem tm_617 : (Jvm.Cond.methodLink "MemoryCourt$Court" (204 : Nat) ({ cls := "MemoryCourt$Court", name := "release", desc := "(II)V" } : Jvm.MethodName)) ∈ lw_tbl := List.mem_of_getElem? (i := 617) (by decide +kernel)
theorem tm_618 : (Jvm.Cond.instanceMethod ({ cls := "MemoryCourt$Court", name := "release", desc := "(II)V" } : Jvm.MethodName)) ∈ lw_tbl := List.mem_of_getElem? (i := 618) (by decide +kernel)
theorem tm_619 : (Jvm.Cond.selects "MemoryCourt$Court" ({ cls := "MemoryCourt$Court", name := "release", desc := "(II)V" } : Jvm.MethodName) ({ cls := "MemoryCourt$Court", name := "release", desc := "(II)V" } : Jvm.MethodName)) ∈ lw_tbl := List.mem_of_getElem? (i := 619) (by decide +kernel)
theorem tm_620 : (Jvm.Cond.code ({ cls := "MemoryCourt$Court", name := "release", desc := "(II)V" } : Jvm.MethodName) prog_4_method_9_code (5 : Nat) (Option.none : Option Jvm.ClassFile.FieldType)) ∈ lw_tbl := List.mem_of_getElem? (i := 620) (by decide +kernel)
theorem tm_621 : (Jvm.Cond.methodLink "MemoryCourt$Court" (197 : Nat) ({ cls := "MemoryCourt$Court", name := "lend", desc := "(IIII)I" } : Jvm.MethodName)) ∈ lw_tbl := List.mem_of_getElem? (i := 621) (by decide +kernel)
theorem tm_622 : (Jvm.Cond.instanceMethod ({ cls := "MemoryCourt$Court", name := "lend", desc := "(IIII)I" } : Jvm.MethodName)) ∈ lw_tbl := List.mem_of_getElem? (i := 622) (by decide +kernel)
theorem tm_623 : (Jvm.Cond.selects "MemoryCourt$Court" ({ cls := "MemoryCourt$Court", name := "lend", desc := "(IIII)I" } : Jvm.MethodName) ({ cls := "MemoryCourt$Court", name := "lend", desc := "(IIII)I" } : Jvm.MethodName)) ∈ lw_tbl := List.mem_of_getElem? (i := 623) (by decide +kernel)
theorem tm_624 : (Jvm.Cond.code ({ cls := "MemoryCourt$Court", name := "lend", desc := "(IIII)I" } : Jvm.MethodName) prog_4_method_8_code (8 : Nat) (Option.some Jvm.ClassFile.FieldType.int)) ∈ lw_tbl := List.mem_of_getElem? (i := 624) (by decide +kernel)
theorem tm_605 : (Jvm.Cond.methodLink "MemoryCourt$Court" (191 : Nat) ({ cls := "MemoryCourt$Court", name := "brokenPages", desc := "()I" } : Jvm.MethodName)) ∈ lw_tbl := List.mem_of_getElem? (i := 605) (by decide +kernel)
theorem tm_606 : (Jvm.Cond.instanceMethod ({ cls := "MemoryCourt$Court", name := "brokenPages", desc := "()I" } : Jvm.MethodName)) ∈ lw_tbl := List.mem_of_getElem? (i := 606) (by decide +kernel)
theorem tm_607 : (Jvm.Cond.selects "MemoryCourt$Court" ({ cls := "MemoryCourt$Court", name := "brokenPages", desc := "()I" } : Jvm.MethodName) ({ cls := "MemoryCourt$Court", name := "brokenPages", desc := "()I" } : Jvm.MethodName)) ∈ lw_tbl := List.mem_of_getElem? (i := 607) (by decide +kernel)
theorem tm_608 : (Jvm.Cond.code ({ cls := "MemoryCourt$Court", name := "brokenPages", desc := "()I" } : Jvm.MethodName) prog_4_method_18_code (3 : Nat) (Option.some Jvm.ClassFile.FieldType.int)) ∈ lw_tbl := List.mem_of_getElem? (i := 608) (by decide +kernel)
theorem tm_609 : (Jvm.Cond.methodLink "MemoryCourt$Court" (194 : Nat) ({ cls := "MemoryCourt$Court", name := "takeBack", desc := "(I)V" } : Jvm.MethodName)) ∈ lw_tbl := List.mem_of_getElem? (i := 609) (by decide +kernel)
theorem tm_611 : (Jvm.Cond.instanceMethod ({ cls := "MemoryCourt$Court", name := "takeBack", desc := "(I)V" } : Jvm.MethodName)) ∈ lw_tbl := List.mem_of_getElem? (i := 611) (by decide +kernel)
theorem tms_12 : (Jvm.Cond.selects "MemoryCourt$Court" ({ cls := "MemoryCourt$Court", name := "takeBack", desc := "(I)V" } : Jvm.MethodName) ({ cls := "MemoryCourt$Court", name := "takeBack", desc := "(I)V" } : Jvm.MethodName)) ∈ lw_tbl := List.mem_of_getElem? (i := 12) (by decide +kernel)
theorem tm_612 : (Jvm.Cond.code ({ cls := "MemoryCourt$Court", name := "takeBack", desc := "(I)V" } : Jvm.MethodName) prog_4_method_44_code (6 : Nat) (Option.none : Option Jvm.ClassFile.FieldType)) ∈ lw_tbl := List.mem_of_getElem? (i := 612) (by decide +kernel)
theorem tm_585 : (Jvm.Cond.methodLink "MemoryCourt$Court" (175 : Nat) ({ cls := "MemoryCourt$Court", name := "lineUp", desc := "()I" } : Jvm.MethodName)) ∈ lw_tbl := List.mem_of_getElem? (i := 585) (by decide +kernel)
theorem tm_586 : (Jvm.Cond.instanceMethod ({ cls := "MemoryCourt$Court", name := "lineUp", desc := "()I" } : Jvm.MethodName)) ∈ lw_tbl := List.mem_of_getElem? (i := 586) (by decide +kernel)
theorem tm_587 : (Jvm.Cond.selects "MemoryCourt$Court" ({ cls := "MemoryCourt$Court", name := "lineUp", desc := "()I" } : Jvm.MethodName) ({ cls := "MemoryCourt$Court", name := "lineUp", desc := "()I" } : Jvm.MethodName)) ∈ lw_tbl := List.mem_of_getElem? (i := 587) (by decide +kernel)
theorem tm_588 : (Jvm.Cond.code ({ cls := "MemoryCourt$Court", name := "lineUp", desc := "()I" } : Jvm.MethodName) prog_4_method_27_code (5 : Nat) (Option.some Jvm.ClassFile.FieldType.int)) ∈ lw_tbl := List.mem_of_getElem? (i := 588) (by decide +kernel)
theorem tm_597 : (Jvm.Cond.methodLink "MemoryCourt$Court" (179 : Nat) ({ cls := "MemoryCourt$Court", name := "inLine", desc := "(I)I" } : Jvm.MethodName)) ∈ lw_tbl := List.mem_of_getElem? (i := 597) (by decide +kernel)
theorem tm_598 : (Jvm.Cond.instanceMethod ({ cls := "MemoryCourt$Court", name := "inLine", desc := "(I)I" } : Jvm.MethodName)) ∈ lw_tbl := List.mem_of_getElem? (i := 598) (by decide +kernel)
theorem tm_599 : (Jvm.Cond.selects "MemoryCourt$Court" ({ cls := "MemoryCourt$Court", name := "inLine", desc := "(I)I" } : Jvm.MethodName) ({ cls := "MemoryCourt$Court", name := "inLine", desc := "(I)I" } : Jvm.MethodName)) ∈ lw_tbl := List.mem_of_getElem? (i := 599) (by decide +kernel)
theorem tm_600 : (Jvm.Cond.code ({ cls := "MemoryCourt$Court", name := "inLine", desc := "(I)I" } : Jvm.MethodName) prog_4_method_28_code (2 : Nat) (Option.some Jvm.ClassFile.FieldType.int)) ∈ lw_tbl := List.mem_of_getElem? (i := 600) (by decide +kernel)
theorem tm_601 : (Jvm.Cond.methodLink "MemoryCourt$Court" (182 : Nat) ({ cls := "MemoryCourt$Court", name := "meets", desc := "(I)Z" } : Jvm.MethodName)) ∈ lw_tbl := List.mem_of_getElem? (i := 601) (by decide +kernel)
theorem tm_603 : (Jvm.Cond.instanceMethod ({ cls := "MemoryCourt$Court", name := "meets", desc := "(I)Z" } : Jvm.MethodName)) ∈ lw_tbl := List.mem_of_getElem? (i := 603) (by decide +kernel)
theorem tms_11 : (Jvm.Cond.selects "MemoryCourt$Court" ({ cls := "MemoryCourt$Court", name := "meets", desc := "(I)Z" } : Jvm.MethodName) ({ cls := "MemoryCourt$Court", name := "meets", desc := "(I)Z" } : Jvm.MethodName)) ∈ lw_tbl := List.mem_of_getElem? (i := 11) (by decide +kernel)
theorem tm_604 : (Jvm.Cond.code ({ cls := "MemoryCourt$Court", name := "meets", desc := "(I)Z" } : Jvm.MethodName) prog_4_method_43_code (5 : Nat) (Option.some Jvm.ClassFile.FieldType.boolean)) ∈ lw_tbl := List.mem_of_getElem? (i := 604) (by decide +kernel)
theorem tm_126 : (Jvm.Cond.fieldLinkNest "MemoryCourt$Court" (185 : Nat) "MemoryCourt$Rules" "patience" "I" "MemoryCourt") ∈ lw_tbl := List.mem_of_getElem? (i := 126) (by decide +kernel)
theorem tm_625 : (Jvm.Cond.methodLink "MemoryCourt$Court" (188 : Nat) ({ cls := "MemoryCourt$Court", name := "putOff", desc := "(II)V" } : Jvm.MethodName)) ∈ lw_tbl := List.mem_of_getElem? (i := 625) (by decide +kernel)
theorem tm_627 : (Jvm.Cond.instanceMethod ({ cls := "MemoryCourt$Court", name := "putOff", desc := "(II)V" } : Jvm.MethodName)) ∈ lw_tbl := List.mem_of_getElem? (i := 627) (by decide +kernel)
theorem tms_13 : (Jvm.Cond.selects "MemoryCourt$Court" ({ cls := "MemoryCourt$Court", name := "putOff", desc := "(II)V" } : Jvm.MethodName) ({ cls := "MemoryCourt$Court", name := "putOff", desc := "(II)V" } : Jvm.MethodName)) ∈ lw_tbl := List.mem_of_getElem? (i := 13) (by decide +kernel)
theorem tm_628 : (Jvm.Cond.code ({ cls := "MemoryCourt$Court", name := "putOff", desc := "(II)V" } : Jvm.MethodName) prog_4_method_45_code (3 : Nat) (Option.none : Option Jvm.ClassFile.FieldType)) ∈ lw_tbl := List.mem_of_getElem? (i := 628) (by decide +kernel)
theorem tm_116 : (Jvm.Cond.fieldLinkNest "MemoryCourt$Court" (145 : Nat) "MemoryCourt$Rules" "processes" "I" "MemoryCourt") ∈ lw_tbl := List.mem_of_getElem? (i := 116) (by decide +kernel)
theorem tm_564 : (Jvm.Cond.methodLink "MemoryCourt$Court" (155 : Nat) ({ cls := "MemoryCourt$Rules", name := "isHearing", desc := "(I)Z" } : Jvm.MethodName)) ∈ lw_tbl := List.mem_of_getElem? (i := 564) (by decide +kernel)
theorem tm_565 : (Jvm.Cond.instanceMethod ({ cls := "MemoryCourt$Rules", name := "isHearing", desc := "(I)Z" } : Jvm.MethodName)) ∈ lw_tbl := List.mem_of_getElem? (i := 565) (by decide +kernel)
theorem tm_566 : (Jvm.Cond.selects "MemoryCourt$Rules" ({ cls := "MemoryCourt$Rules", name := "isHearing", desc := "(I)Z" } : Jvm.MethodName) ({ cls := "MemoryCourt$Rules", name := "isHearing", desc := "(I)Z" } : Jvm.MethodName)) ∈ lw_tbl := List.mem_of_getElem? (i := 566) (by decide +kernel)
theorem tm_567 : (Jvm.Cond.code ({ cls := "MemoryCourt$Rules", name := "isHearing", desc := "(I)Z" } : Jvm.MethodName) prog_7_method_9_code (2 : Nat) (Option.some Jvm.ClassFile.FieldType.boolean)) ∈ lw_tbl := List.mem_of_getElem? (i := 567) (by decide +kernel)
theorem tm_568 : (Jvm.Cond.methodLink "MemoryCourt$Court" (158 : Nat) ({ cls := "MemoryCourt$Court", name := "hearFines", desc := "(LMemoryCourt$Rules;)V" } : Jvm.MethodName)) ∈ lw_tbl := List.mem_of_getElem? (i := 568) (by decide +kernel)
theorem tm_570 : (Jvm.Cond.instanceMethod ({ cls := "MemoryCourt$Court", name := "hearFines", desc := "(LMemoryCourt$Rules;)V" } : Jvm.MethodName)) ∈ lw_tbl := List.mem_of_getElem? (i := 570) (by decide +kernel)
theorem tms_7 : (Jvm.Cond.selects "MemoryCourt$Court" ({ cls := "MemoryCourt$Court", name := "hearFines", desc := "(LMemoryCourt$Rules;)V" } : Jvm.MethodName) ({ cls := "MemoryCourt$Court", name := "hearFines", desc := "(LMemoryCourt$Rules;)V" } : Jvm.MethodName)) ∈ lw_tbl := List.mem_of_getElem? (i := 7) (by decide +kernel)
theorem tm_571 : (Jvm.Cond.code ({ cls := "MemoryCourt$Court", name := "hearFines", desc := "(LMemoryCourt$Rules;)V" } : Jvm.MethodName) prog_4_method_40_code (3 : Nat) (Option.none : Option Jvm.ClassFile.FieldType)) ∈ lw_tbl := List.mem_of_getElem? (i := 571) (by decide +kernel)
theorem tm_581 : (Jvm.Cond.methodLink "MemoryCourt$Court" (162 : Nat) ({ cls := "MemoryCourt$Court", name := "hearClaims", desc := "(LMemoryCourt$Rules;)I" } : Jvm.MethodName)) ∈ lw_tbl := List.mem_of_getElem? (i := 581) (by decide +kernel)
theorem tm_583 : (Jvm.Cond.instanceMethod ({ cls := "MemoryCourt$Court", name := "hearClaims", desc := "(LMemoryCourt$Rules;)I" } : Jvm.MethodName)) ∈ lw_tbl := List.mem_of_getElem? (i := 583) (by decide +kernel)
theorem tms_9 : (Jvm.Cond.selects "MemoryCourt$Court" ({ cls := "MemoryCourt$Court", name := "hearClaims", desc := "(LMemoryCourt$Rules;)I" } : Jvm.MethodName) ({ cls := "MemoryCourt$Court", name := "hearClaims", desc := "(LMemoryCourt$Rules;)I" } : Jvm.MethodName)) ∈ lw_tbl := List.mem_of_getElem? (i := 9) (by decide +kernel)
theorem tm_584 : (Jvm.Cond.code ({ cls := "MemoryCourt$Court", name := "hearClaims", desc := "(LMemoryCourt$Rules;)I" } : Jvm.MethodName) prog_4_method_42_code (6 : Nat) (Option.some Jvm.ClassFile.FieldType.int)) ∈ lw_tbl := List.mem_of_getElem? (i := 584) (by decide +kernel)
theorem tm_556 : (Jvm.Cond.methodLink "MemoryCourt$Court" (152 : Nat) ({ cls := "MemoryCourt$Rules", name := "isFading", desc := "(I)Z" } : Jvm.MethodName)) ∈ lw_tbl := List.mem_of_getElem? (i := 556) (by decide +kernel)
theorem tm_557 : (Jvm.Cond.instanceMethod ({ cls := "MemoryCourt$Rules", name := "isFading", desc := "(I)Z" } : Jvm.MethodName)) ∈ lw_tbl := List.mem_of_getElem? (i := 557) (by decide +kernel)
theorem tm_558 : (Jvm.Cond.selects "MemoryCourt$Rules" ({ cls := "MemoryCourt$Rules", name := "isFading", desc := "(I)Z" } : Jvm.MethodName) ({ cls := "MemoryCourt$Rules", name := "isFading", desc := "(I)Z" } : Jvm.MethodName)) ∈ lw_tbl := List.mem_of_getElem? (i := 558) (by decide +kernel)
theorem tm_559 : (Jvm.Cond.code ({ cls := "MemoryCourt$Rules", name := "isFading", desc := "(I)Z" } : Jvm.MethodName) prog_7_method_10_code (2 : Nat) (Option.some Jvm.ClassFile.FieldType.boolean)) ∈ lw_tbl := List.mem_of_getElem? (i := 559) (by decide +kernel)
theorem tm_552 : (Jvm.Cond.methodLink "MemoryCourt$Court" (149 : Nat) ({ cls := "MemoryCourt$Court", name := "noteStalled", desc := "(I)V" } : Jvm.MethodName)) ∈ lw_tbl := List.mem_of_getElem? (i := 552) (by decide +kernel)
theorem tm_554 : (Jvm.Cond.instanceMethod ({ cls := "MemoryCourt$Court", name := "noteStalled", desc := "(I)V" } : Jvm.MethodName)) ∈ lw_tbl := List.mem_of_getElem? (i := 554) (by decide +kernel)
theorem tms_6 : (Jvm.Cond.selects "MemoryCourt$Court" ({ cls := "MemoryCourt$Court", name := "noteStalled", desc := "(I)V" } : Jvm.MethodName) ({ cls := "MemoryCourt$Court", name := "noteStalled", desc := "(I)V" } : Jvm.MethodName)) ∈ lw_tbl := List.mem_of_getElem? (i := 6) (by decide +kernel)
theorem tm_555 : (Jvm.Cond.code ({ cls := "MemoryCourt$Court", name := "noteStalled", desc := "(I)V" } : Jvm.MethodName) prog_4_method_39_code (3 : Nat) (Option.none : Option Jvm.ClassFile.FieldType)) ∈ lw_tbl := List.mem_of_getElem? (i := 555) (by decide +kernel)
theorem on_60 : Int32.ofNat 60 = (60 : Int32) := by decide
theorem sp_200 : (Int16.ofInt (200)).toInt32 = (200 : Int32) := by decide
theorem bp_100 : (Int8.ofInt (100)).toInt32 = (100 : Int32) := by decide
theorem bp_40 : (Int8.ofInt (40)).toInt32 = (40 : Int32) := by decide
theorem sp_999 : (Int16.ofInt (999)).toInt32 = (999 : Int32) := by decide
theorem gf_X2_65 {p : Program} {l : Launch} {e : Env} {R : Room} {s : State} {m : MethodId} {args : Array Value} {below : List Frame} {meth : Method} {c : Code} {H : Heap} {locs : List Loc} {cells slots : Nat} {Q : State → Prop} {cc : ByteArray} {pc nL : Nat} {ls : Array Slot} {rest : List Value} {k : KT} {A : Nat → Prop} {ws : va_W} {H0 : Heap} {a : Nat} (E : E0 p s m c cc nL RX2 k A) (hW : WD k A H0 ws H locs) (q0 : Nat) {fs : List Value} (he : ws[q0]? = some (a, .inr (3, fs))) {v : Value} (hv : fs[15]? = some v) (hdg : decode cc pc = .ok (.getfield 65, 3)) (q : W p l e R s m args below meth c H locs cells slots Q (F0 m (pc + 3) ls (v :: rest))) : W p l e R s m args below meth c H locs cells slots Q (F0 m pc ls (.ref a :: rest)) := va_get (C := RX2) (T := TX2) (N := 16) (ci := 3) E.hx E.hb (Ts := wsX20) (fun w hw => E.w (inX2 w hw) (tbl_laysX2 w hw)) (fun _ h => h) E.ho E.hK hW.1 q0 he rfl 15 (by decide) (E.w tm_185 rfl) (fun _ h => h) hv hdg q
theorem gf_X2_166 {p : Program} {l : Launch} {e : Env} {R : Room} {s : State} {m : MethodId} {args : Array Value} {below : List Frame} {meth : Method} {c : Code} {H : Heap} {locs : List Loc} {cells slots : Nat} {Q : State → Prop} {cc : ByteArray} {pc nL : Nat} {ls : Array Slot} {rest : List Value} {k : KT} {A : Nat → Prop} {ws : va_W} {H0 : Heap} {a : Nat} (E : E0 p s m c cc nL RX2 k A) (hW : WD k A H0 ws H locs) (q0 : Nat) {fs : List Value} (he : ws[q0]? = some (a, .inr (6, fs))) {v : Value} (hv : fs[3]? = some v) (hdg : decode cc pc = .ok (.getfield 166, 3)) (q : W p l e R s m args below meth c H locs cells slots Q (F0 m (pc + 3) ls (v :: rest))) : W p l e R s m args below meth c H locs cells slots Q (F0 m pc ls (.ref a :: rest)) := va_getN (C := RX5) (T := TX5) (N := 8) (ci := 6) E.hx E.hb (Ts := wsX50) (fun w hw => E.w (inX5 w hw) (tbl_laysX5 w hw)) (fun _ h => h) E.ho E.hK hW.1 q0 he rfl 3 (by decide) (E.w tm_121 rfl) (fun _ h => h) hv hdg q
theorem gf_X2_185 {p : Program} {l : Launch} {e : Env} {R : Room} {s : State} {m : MethodId} {args : Array Value} {below : List Frame} {meth : Method} {c : Code} {H : Heap} {locs : List Loc} {cells slots : Nat} {Q : State → Prop} {cc : ByteArray} {pc nL : Nat} {ls : Array Slot} {rest : List Value} {k : KT} {A : Nat → Prop} {ws : va_W} {H0 : Heap} {a : Nat} (E : E0 p s m c cc nL RX2 k A) (hW : WD k A H0 ws H locs) (q0 : Nat) {fs : List Value} (he : ws[q0]? = some (a, .inr (6, fs))) {v : Value} (hv : fs[5]? = some v) (hdg : decode cc pc = .ok (.getfield 185, 3)) (q : W p l e R s m args below meth c H locs cells slots Q (F0 m (pc + 3) ls (v :: rest))) : W p l e R s m args below meth c H locs cells slots Q (F0 m pc ls (.ref a :: rest)) := va_getN (C := RX5) (T := TX5) (N := 8) (ci := 6) E.hx E.hb (Ts := wsX50) (fun w hw => E.w (inX5 w hw) (tbl_laysX5 w hw)) (fun _ h => h) E.ho E.hK hW.1 q0 he rfl 5 (by decide) (E.w tm_126 rfl) (fun _ h => h) hv hdg q
theorem gf_X2_145 {p : Program} {l : Launch} {e : Env} {R : Room} {s : State} {m : MethodId} {args : Array Value} {below : List Frame} {meth : Method} {c : Code} {H : Heap} {locs : List Loc} {cells slots : Nat} {Q : State → Prop} {cc : ByteArray} {pc nL : Nat} {ls : Array Slot} {rest : List Value} {k : KT} {A : Nat → Prop} {ws : va_W} {H0 : Heap} {a : Nat} (E : E0 p s m c cc nL RX2 k A) (hW : WD k A H0 ws H locs) (q0 : Nat) {fs : List Value} (he : ws[q0]? = some (a, .inr (6, fs))) {v : Value} (hv : fs[1]? = some v) (hdg : decode cc pc = .ok (.getfield 145, 3)) (q : W p l e R s m args below meth c H locs cells slots Q (F0 m (pc + 3) ls (v :: rest))) : W p l e R s m args below meth c H locs cells slots Q (F0 m pc ls (.ref a :: rest)) := va_getN (C := RX5) (T := TX5) (N := 8) (ci := 6) E.hx E.hb (Ts := wsX50) (fun w hw => E.w (inX5 w hw) (tbl_laysX5 w hw)) (fun _ h => h) E.ho E.hK hW.1 q0 he rfl 1 (by decide) (E.w tm_116 rfl) (fun _ h => h) hv hdg q
theorem vl_X2_126 : VL RX2 126 RX2 yX2_waits cX2_waits 2 (some .boolean) 1 := ⟨⟨tm_589, tm_590, tm_591, tm_38, tm_592⟩, by decide +kernel⟩
theorem vl_X2_129 : VL RX2 129 RX2 yX2_rankOf cX2_rankOf 2 (some .int) 1 := ⟨⟨tm_593, tm_595, tms_10, tm_38, tm_596⟩, by decide +kernel⟩
theorem sl_X2_139 : SL RX2 139 yX2_quotientUp cX2_quotientUp 2 (some .int) 2 := ⟨⟨tm_577, tm_578, tm_38, tm_579⟩, by decide +kernel⟩
theorem vl_X2_169 : VL RX2 169 RX2 yX2_fineFor cX2_fineFor 9 (some .int) 2 := ⟨⟨tm_572, tm_574, tms_8, tm_38, tm_575⟩, by decide +kernel⟩
theorem vl_X2_201 : VL RX2 201 RX2 yX2_earliestBroken cX2_earliestBroken 4 (some .int) 0 := ⟨⟨tm_613, tm_614, tm_615, tm_38, tm_616⟩, by decide +kernel⟩
theorem vl_X2_204 : VL RX2 204 RX2 yX2_release cX2_release 5 none 2 := ⟨⟨tm_617, tm_618, tm_619, tm_38, tm_620⟩, by decide +kernel⟩
theorem vl_X2_197 : VL RX2 197 RX2 yX2_lend cX2_lend 8 (some .int) 4 := ⟨⟨tm_621, tm_622, tm_623, tm_38, tm_624⟩, by decide +kernel⟩
theorem vl_X2_191 : VL RX2 191 RX2 yX2_brokenPages cX2_brokenPages 3 (some .int) 0 := ⟨⟨tm_605, tm_606, tm_607, tm_38, tm_608⟩, by decide +kernel⟩
theorem vl_X2_194 : VL RX2 194 RX2 yX2_takeBack cX2_takeBack 6 none 1 := ⟨⟨tm_609, tm_611, tms_12, tm_38, tm_612⟩, by decide +kernel⟩
theorem vl_X2_175 : VL RX2 175 RX2 yX2_lineUp cX2_lineUp 5 (some .int) 0 := ⟨⟨tm_585, tm_586, tm_587, tm_38, tm_588⟩, by decide +kernel⟩
theorem vl_X2_179 : VL RX2 179 RX2 yX2_inLine cX2_inLine 2 (some .int) 1 := ⟨⟨tm_597, tm_598, tm_599, tm_38, tm_600⟩, by decide +kernel⟩
theorem vl_X2_182 : VL RX2 182 RX2 yX2_meets cX2_meets 5 (some .boolean) 1 := ⟨⟨tm_601, tm_603, tms_11, tm_38, tm_604⟩, by decide +kernel⟩
theorem vl_X2_188 : VL RX2 188 RX2 yX2_putOff cX2_putOff 3 none 2 := ⟨⟨tm_625, tm_627, tms_13, tm_38, tm_628⟩, by decide +kernel⟩
theorem vl_X2_155 : VL RX2 155 RX5 yX5_isHearing cX5_isHearing 2 (some .boolean) 1 := ⟨⟨tm_564, tm_565, tm_566, tm_36, tm_567⟩, by decide +kernel⟩
theorem vl_X2_158 : VL RX2 158 RX2 yX2_hearFines cX2_hearFines 3 none 1 := ⟨⟨tm_568, tm_570, tms_7, tm_38, tm_571⟩, by decide +kernel⟩
theorem vl_X2_162 : VL RX2 162 RX2 yX2_hearClaims cX2_hearClaims 6 (some .int) 1 := ⟨⟨tm_581, tm_583, tms_9, tm_38, tm_584⟩, by decide +kernel⟩
theorem vl_X2_152 : VL RX2 152 RX5 yX5_isFading cX5_isFading 2 (some .boolean) 1 := ⟨⟨tm_556, tm_557, tm_558, tm_36, tm_559⟩, by decide +kernel⟩
theorem vl_X2_149 : VL RX2 149 RX2 yX2_noteStalled cX2_noteStalled 3 none 1 := ⟨⟨tm_552, tm_554, tms_6, tm_38, tm_555⟩, by decide +kernel⟩
theorem dX2_addClaim_0 : decode cX2_addClaim 0 = .ok (.aload_n 0, 1) := by decide +kernel
theorem dX2_addClaim_1 : decode cX2_addClaim 1 = .ok (.getfield 24, 3) := by decide +kernel
theorem dX2_addClaim_4 : decode cX2_addClaim 4 = .ok (.istore 4, 2) := by decide +kernel
theorem dX2_addClaim_6 : decode cX2_addClaim 6 = .ok (.aload_n 0, 1) := by decide +kernel
theorem dX2_addClaim_7 : decode cX2_addClaim 7 = .ok (.dup, 1) := by decide +kernel
theorem dX2_addClaim_8 : decode cX2_addClaim 8 = .ok (.getfield 24, 3) := by decide +kernel
theorem dX2_addClaim_11 : decode cX2_addClaim 11 = .ok (.iconst 1, 1) := by decide +kernel
theorem dX2_addClaim_12 : decode cX2_addClaim 12 = .ok (.iadd, 1) := by decide +kernel
theorem dX2_addClaim_13 : decode cX2_addClaim 13 = .ok (.putfield 24, 3) := by decide +kernel
theorem dX2_addClaim_16 : decode cX2_addClaim 16 = .ok (.aload_n 0, 1) := by decide +kernel
theorem dX2_addClaim_17 : decode cX2_addClaim 17 = .ok (.getfield 59, 3) := by decide +kernel
theorem dX2_addClaim_20 : decode cX2_addClaim 20 = .ok (.iload 4, 2) := by decide +kernel
theorem dX2_addClaim_22 : decode cX2_addClaim 22 = .ok (.iconst 0, 1) := by decide +kernel
theorem dX2_addClaim_23 : decode cX2_addClaim 23 = .ok (.iload_n 1, 1) := by decide +kernel
theorem dX2_addClaim_24 : decode cX2_addClaim 24 = .ok (.invokevirtual 93, 3) := by decide +kernel
theorem dX2_addClaim_27 : decode cX2_addClaim 27 = .ok (.aload_n 0, 1) := by decide +kernel
theorem dX2_addClaim_28 : decode cX2_addClaim 28 = .ok (.getfield 59, 3) := by decide +kernel
theorem dX2_addClaim_31 : decode cX2_addClaim 31 = .ok (.iload 4, 2) := by decide +kernel
theorem dX2_addClaim_33 : decode cX2_addClaim 33 = .ok (.iconst 1, 1) := by decide +kernel
theorem dX2_addClaim_34 : decode cX2_addClaim 34 = .ok (.iload_n 2, 1) := by decide +kernel
theorem dX2_addClaim_35 : decode cX2_addClaim 35 = .ok (.invokevirtual 93, 3) := by decide +kernel
theorem dX2_addClaim_38 : decode cX2_addClaim 38 = .ok (.aload_n 0, 1) := by decide +kernel
theorem dX2_addClaim_39 : decode cX2_addClaim 39 = .ok (.getfield 59, 3) := by decide +kernel
theorem dX2_addClaim_42 : decode cX2_addClaim 42 = .ok (.iload 4, 2) := by decide +kernel
theorem dX2_addClaim_44 : decode cX2_addClaim 44 = .ok (.iconst 2, 1) := by decide +kernel
theorem dX2_addClaim_45 : decode cX2_addClaim 45 = .ok (.iload_n 3, 1) := by decide +kernel
theorem dX2_addClaim_46 : decode cX2_addClaim 46 = .ok (.invokevirtual 93, 3) := by decide +kernel
theorem dX2_addClaim_49 : decode cX2_addClaim 49 = .ok (.aload_n 0, 1) := by decide +kernel
theorem dX2_addClaim_50 : decode cX2_addClaim 50 = .ok (.getfield 59, 3) := by decide +kernel
theorem dX2_addClaim_53 : decode cX2_addClaim 53 = .ok (.iload 4, 2) := by decide +kernel
theorem dX2_addClaim_55 : decode cX2_addClaim 55 = .ok (.iconst 3, 1) := by decide +kernel
theorem dX2_addClaim_56 : decode cX2_addClaim 56 = .ok (.iconst 0, 1) := by decide +kernel
theorem dX2_addClaim_57 : decode cX2_addClaim 57 = .ok (.invokevirtual 93, 3) := by decide +kernel
theorem dX2_addClaim_60 : decode cX2_addClaim 60 = .ok (.aload_n 0, 1) := by decide +kernel
theorem dX2_addClaim_61 : decode cX2_addClaim 61 = .ok (.getfield 59, 3) := by decide +kernel
theorem dX2_addClaim_64 : decode cX2_addClaim 64 = .ok (.iload 4, 2) := by decide +kernel
theorem dX2_addClaim_66 : decode cX2_addClaim 66 = .ok (.iconst 4, 1) := by decide +kernel
theorem dX2_addClaim_67 : decode cX2_addClaim 67 = .ok (.iconst 0, 1) := by decide +kernel
theorem dX2_addClaim_68 : decode cX2_addClaim 68 = .ok (.invokevirtual 93, 3) := by decide +kernel
theorem dX2_addClaim_71 : decode cX2_addClaim 71 = .ok (.aload_n 0, 1) := by decide +kernel
theorem dX2_addClaim_72 : decode cX2_addClaim 72 = .ok (.getfield 59, 3) := by decide +kernel
theorem dX2_addClaim_75 : decode cX2_addClaim 75 = .ok (.iload 4, 2) := by decide +kernel
theorem dX2_addClaim_77 : decode cX2_addClaim 77 = .ok (.iconst 5, 1) := by decide +kernel
theorem dX2_addClaim_78 : decode cX2_addClaim 78 = .ok (.iconst (-1), 1) := by decide +kernel
theorem dX2_addClaim_79 : decode cX2_addClaim 79 = .ok (.invokevirtual 93, 3) := by decide +kernel
theorem dX2_addClaim_82 : decode cX2_addClaim 82 = .ok (.aload_n 0, 1) := by decide +kernel
theorem dX2_addClaim_83 : decode cX2_addClaim 83 = .ok (.getfield 59, 3) := by decide +kernel
theorem dX2_addClaim_86 : decode cX2_addClaim 86 = .ok (.iload 4, 2) := by decide +kernel
theorem dX2_addClaim_88 : decode cX2_addClaim 88 = .ok (.bipush 6, 2) := by decide +kernel
theorem dX2_addClaim_90 : decode cX2_addClaim 90 = .ok (.aload_n 0, 1) := by decide +kernel
theorem dX2_addClaim_91 : decode cX2_addClaim 91 = .ok (.getfield 9, 3) := by decide +kernel
theorem dX2_addClaim_94 : decode cX2_addClaim 94 = .ok (.invokevirtual 93, 3) := by decide +kernel
theorem dX2_addClaim_97 : decode cX2_addClaim 97 = .ok (.iload 4, 2) := by decide +kernel
theorem dX2_addClaim_99 : decode cX2_addClaim 99 = .ok (.ireturn, 1) := by decide +kernel
theorem dX2_waits_0 : decode cX2_waits 0 = .ok (.aload_n 0, 1) := by decide +kernel
theorem dX2_waits_1 : decode cX2_waits 1 = .ok (.getfield 59, 3) := by decide +kernel
theorem dX2_waits_4 : decode cX2_waits 4 = .ok (.iload_n 1, 1) := by decide +kernel
theorem dX2_waits_5 : decode cX2_waits 5 = .ok (.iconst 3, 1) := by decide +kernel
theorem dX2_waits_6 : decode cX2_waits 6 = .ok (.invokevirtual 100, 3) := by decide +kernel
theorem dX2_waits_9 : decode cX2_waits 9 = .ok (.ifCond .ne 7, 3) := by decide +kernel
theorem dX2_waits_12 : decode cX2_waits 12 = .ok (.iconst 1, 1) := by decide +kernel
theorem dX2_waits_13 : decode cX2_waits 13 = .ok (.goto 4, 3) := by decide +kernel
theorem dX2_waits_16 : decode cX2_waits 16 = .ok (.iconst 0, 1) := by decide +kernel
theorem dX2_waits_17 : decode cX2_waits 17 = .ok (.ireturn, 1) := by decide +kernel
theorem dX2_claimsThat_0 : decode cX2_claimsThat 0 = .ok (.iconst 0, 1) := by decide +kernel
theorem dX2_claimsThat_1 : decode cX2_claimsThat 1 = .ok (.istore_n 3, 1) := by decide +kernel
theorem dX2_claimsThat_2 : decode cX2_claimsThat 2 = .ok (.iconst 0, 1) := by decide +kernel
theorem dX2_claimsThat_3 : decode cX2_claimsThat 3 = .ok (.istore 4, 2) := by decide +kernel
theorem dX2_claimsThat_5 : decode cX2_claimsThat 5 = .ok (.iload 4, 2) := by decide +kernel
theorem dX2_claimsThat_7 : decode cX2_claimsThat 7 = .ok (.aload_n 0, 1) := by decide +kernel
theorem dX2_claimsThat_8 : decode cX2_claimsThat 8 = .ok (.getfield 24, 3) := by decide +kernel
theorem dX2_claimsThat_11 : decode cX2_claimsThat 11 = .ok (.if_icmp .ge 45, 3) := by decide +kernel
theorem dX2_claimsThat_14 : decode cX2_claimsThat 14 = .ok (.aload_n 0, 1) := by decide +kernel
theorem dX2_claimsThat_15 : decode cX2_claimsThat 15 = .ok (.getfield 59, 3) := by decide +kernel
theorem dX2_claimsThat_18 : decode cX2_claimsThat 18 = .ok (.iload 4, 2) := by decide +kernel
theorem dX2_claimsThat_20 : decode cX2_claimsThat 20 = .ok (.iconst 3, 1) := by decide +kernel
theorem dX2_claimsThat_21 : decode cX2_claimsThat 21 = .ok (.invokevirtual 100, 3) := by decide +kernel
theorem dX2_claimsThat_24 : decode cX2_claimsThat 24 = .ok (.iload_n 2, 1) := by decide +kernel
theorem dX2_claimsThat_25 : decode cX2_claimsThat 25 = .ok (.if_icmp .ne 25, 3) := by decide +kernel
theorem dX2_claimsThat_28 : decode cX2_claimsThat 28 = .ok (.iload_n 1, 1) := by decide +kernel
theorem dX2_claimsThat_29 : decode cX2_claimsThat 29 = .ok (.iconst (-1), 1) := by decide +kernel
theorem dX2_claimsThat_30 : decode cX2_claimsThat 30 = .ok (.if_icmp .eq 17, 3) := by decide +kernel
theorem dX2_claimsThat_33 : decode cX2_claimsThat 33 = .ok (.aload_n 0, 1) := by decide +kernel
theorem dX2_claimsThat_34 : decode cX2_claimsThat 34 = .ok (.getfield 59, 3) := by decide +kernel
theorem dX2_claimsThat_37 : decode cX2_claimsThat 37 = .ok (.iload 4, 2) := by decide +kernel
theorem dX2_claimsThat_39 : decode cX2_claimsThat 39 = .ok (.iconst 0, 1) := by decide +kernel
theorem dX2_claimsThat_40 : decode cX2_claimsThat 40 = .ok (.invokevirtual 100, 3) := by decide +kernel
theorem dX2_claimsThat_43 : decode cX2_claimsThat 43 = .ok (.iload_n 1, 1) := by decide +kernel
theorem dX2_claimsThat_44 : decode cX2_claimsThat 44 = .ok (.if_icmp .ne 6, 3) := by decide +kernel
theorem dX2_claimsThat_47 : decode cX2_claimsThat 47 = .ok (.iinc 3 1, 3) := by decide +kernel
theorem dX2_claimsThat_50 : decode cX2_claimsThat 50 = .ok (.iinc 4 1, 3) := by decide +kernel
theorem dX2_claimsThat_53 : decode cX2_claimsThat 53 = .ok (.goto (-48), 3) := by decide +kernel
theorem dX2_claimsThat_56 : decode cX2_claimsThat 56 = .ok (.iload_n 3, 1) := by decide +kernel
theorem dX2_claimsThat_57 : decode cX2_claimsThat 57 = .ok (.ireturn, 1) := by decide +kernel
theorem dX2_rankOf_0 : decode cX2_rankOf 0 = .ok (.aload_n 0, 1) := by decide +kernel
theorem dX2_rankOf_1 : decode cX2_rankOf 1 = .ok (.getfield 15, 3) := by decide +kernel
theorem dX2_rankOf_4 : decode cX2_rankOf 4 = .ok (.lookupswitch 56 #[(1, 28), (2, 38)], 28) := by decide +kernel
theorem dX2_rankOf_32 : decode cX2_rankOf 32 = .ok (.aload_n 0, 1) := by decide +kernel
theorem dX2_rankOf_33 : decode cX2_rankOf 33 = .ok (.getfield 59, 3) := by decide +kernel
theorem dX2_rankOf_36 : decode cX2_rankOf 36 = .ok (.iload_n 1, 1) := by decide +kernel
theorem dX2_rankOf_37 : decode cX2_rankOf 37 = .ok (.iconst 1, 1) := by decide +kernel
theorem dX2_rankOf_38 : decode cX2_rankOf 38 = .ok (.invokevirtual 100, 3) := by decide +kernel
theorem dX2_rankOf_41 : decode cX2_rankOf 41 = .ok (.ireturn, 1) := by decide +kernel
theorem dX2_rankOf_42 : decode cX2_rankOf 42 = .ok (.aload_n 0, 1) := by decide +kernel
theorem dX2_rankOf_43 : decode cX2_rankOf 43 = .ok (.getfield 52, 3) := by decide +kernel
theorem dX2_rankOf_46 : decode cX2_rankOf 46 = .ok (.aload_n 0, 1) := by decide +kernel
theorem dX2_rankOf_47 : decode cX2_rankOf 47 = .ok (.getfield 59, 3) := by decide +kernel
theorem dX2_rankOf_50 : decode cX2_rankOf 50 = .ok (.iload_n 1, 1) := by decide +kernel
theorem dX2_rankOf_51 : decode cX2_rankOf 51 = .ok (.iconst 0, 1) := by decide +kernel
theorem dX2_rankOf_52 : decode cX2_rankOf 52 = .ok (.invokevirtual 100, 3) := by decide +kernel
theorem dX2_rankOf_55 : decode cX2_rankOf 55 = .ok (.iconst 0, 1) := by decide +kernel
theorem dX2_rankOf_56 : decode cX2_rankOf 56 = .ok (.invokevirtual 100, 3) := by decide +kernel
theorem dX2_rankOf_59 : decode cX2_rankOf 59 = .ok (.ireturn, 1) := by decide +kernel
theorem dX2_rankOf_60 : decode cX2_rankOf 60 = .ok (.iconst 0, 1) := by decide +kernel
theorem dX2_rankOf_61 : decode cX2_rankOf 61 = .ok (.ireturn, 1) := by decide +kernel
theorem dX2_lineUp_0 : decode cX2_lineUp 0 = .ok (.iconst 0, 1) := by decide +kernel
theorem dX2_lineUp_1 : decode cX2_lineUp 1 = .ok (.istore_n 1, 1) := by decide +kernel
theorem dX2_lineUp_2 : decode cX2_lineUp 2 = .ok (.iconst 0, 1) := by decide +kernel
theorem dX2_lineUp_3 : decode cX2_lineUp 3 = .ok (.istore_n 2, 1) := by decide +kernel
theorem dX2_lineUp_4 : decode cX2_lineUp 4 = .ok (.iload_n 2, 1) := by decide +kernel
theorem dX2_lineUp_5 : decode cX2_lineUp 5 = .ok (.aload_n 0, 1) := by decide +kernel
theorem dX2_lineUp_6 : decode cX2_lineUp 6 = .ok (.getfield 24, 3) := by decide +kernel
theorem dX2_lineUp_9 : decode cX2_lineUp 9 = .ok (.if_icmp .ge 86, 3) := by decide +kernel
theorem dX2_lineUp_12 : decode cX2_lineUp 12 = .ok (.iload_n 1, 1) := by decide +kernel
theorem dX2_lineUp_13 : decode cX2_lineUp 13 = .ok (.aload_n 0, 1) := by decide +kernel
theorem dX2_lineUp_14 : decode cX2_lineUp 14 = .ok (.getfield 65, 3) := by decide +kernel
theorem dX2_lineUp_17 : decode cX2_lineUp 17 = .ok (.arraylength, 1) := by decide +kernel
theorem dX2_lineUp_18 : decode cX2_lineUp 18 = .ok (.if_icmp .ge 77, 3) := by decide +kernel
theorem dX2_lineUp_21 : decode cX2_lineUp 21 = .ok (.aload_n 0, 1) := by decide +kernel
theorem dX2_lineUp_22 : decode cX2_lineUp 22 = .ok (.iload_n 2, 1) := by decide +kernel
theorem dX2_lineUp_23 : decode cX2_lineUp 23 = .ok (.invokevirtual 126, 3) := by decide +kernel
theorem dX2_lineUp_26 : decode cX2_lineUp 26 = .ok (.ifCond .eq 63, 3) := by decide +kernel
theorem dX2_lineUp_29 : decode cX2_lineUp 29 = .ok (.iload_n 1, 1) := by decide +kernel
theorem dX2_lineUp_30 : decode cX2_lineUp 30 = .ok (.istore_n 3, 1) := by decide +kernel
theorem dX2_lineUp_31 : decode cX2_lineUp 31 = .ok (.aload_n 0, 1) := by decide +kernel
theorem dX2_lineUp_32 : decode cX2_lineUp 32 = .ok (.iload_n 2, 1) := by decide +kernel
theorem dX2_lineUp_33 : decode cX2_lineUp 33 = .ok (.invokevirtual 129, 3) := by decide +kernel
theorem dX2_lineUp_36 : decode cX2_lineUp 36 = .ok (.istore 4, 2) := by decide +kernel
theorem dX2_lineUp_38 : decode cX2_lineUp 38 = .ok (.iload_n 3, 1) := by decide +kernel
theorem dX2_lineUp_39 : decode cX2_lineUp 39 = .ok (.ifCond .le 40, 3) := by decide +kernel
theorem dX2_lineUp_42 : decode cX2_lineUp 42 = .ok (.aload_n 0, 1) := by decide +kernel
theorem dX2_lineUp_43 : decode cX2_lineUp 43 = .ok (.aload_n 0, 1) := by decide +kernel
theorem dX2_lineUp_44 : decode cX2_lineUp 44 = .ok (.getfield 65, 3) := by decide +kernel
theorem dX2_lineUp_47 : decode cX2_lineUp 47 = .ok (.iload_n 3, 1) := by decide +kernel
theorem dX2_lineUp_48 : decode cX2_lineUp 48 = .ok (.iconst 1, 1) := by decide +kernel
theorem dX2_lineUp_49 : decode cX2_lineUp 49 = .ok (.isub, 1) := by decide +kernel
theorem dX2_lineUp_50 : decode cX2_lineUp 50 = .ok (.iaload, 1) := by decide +kernel
theorem dX2_lineUp_51 : decode cX2_lineUp 51 = .ok (.invokevirtual 129, 3) := by decide +kernel
theorem dX2_lineUp_54 : decode cX2_lineUp 54 = .ok (.iload 4, 2) := by decide +kernel
theorem dX2_lineUp_56 : decode cX2_lineUp 56 = .ok (.if_icmp .le 23, 3) := by decide +kernel
theorem dX2_lineUp_59 : decode cX2_lineUp 59 = .ok (.aload_n 0, 1) := by decide +kernel
theorem dX2_lineUp_60 : decode cX2_lineUp 60 = .ok (.getfield 65, 3) := by decide +kernel
theorem dX2_lineUp_63 : decode cX2_lineUp 63 = .ok (.iload_n 3, 1) := by decide +kernel
theorem dX2_lineUp_64 : decode cX2_lineUp 64 = .ok (.aload_n 0, 1) := by decide +kernel
theorem dX2_lineUp_65 : decode cX2_lineUp 65 = .ok (.getfield 65, 3) := by decide +kernel
theorem dX2_lineUp_68 : decode cX2_lineUp 68 = .ok (.iload_n 3, 1) := by decide +kernel
theorem dX2_lineUp_69 : decode cX2_lineUp 69 = .ok (.iconst 1, 1) := by decide +kernel
theorem dX2_lineUp_70 : decode cX2_lineUp 70 = .ok (.isub, 1) := by decide +kernel
theorem dX2_lineUp_71 : decode cX2_lineUp 71 = .ok (.iaload, 1) := by decide +kernel
theorem dX2_lineUp_72 : decode cX2_lineUp 72 = .ok (.iastore, 1) := by decide +kernel
theorem dX2_lineUp_73 : decode cX2_lineUp 73 = .ok (.iinc 3 (-1), 3) := by decide +kernel
theorem dX2_lineUp_76 : decode cX2_lineUp 76 = .ok (.goto (-38), 3) := by decide +kernel
theorem dX2_lineUp_79 : decode cX2_lineUp 79 = .ok (.aload_n 0, 1) := by decide +kernel
theorem dX2_lineUp_80 : decode cX2_lineUp 80 = .ok (.getfield 65, 3) := by decide +kernel
theorem dX2_lineUp_83 : decode cX2_lineUp 83 = .ok (.iload_n 3, 1) := by decide +kernel
theorem dX2_lineUp_84 : decode cX2_lineUp 84 = .ok (.iload_n 2, 1) := by decide +kernel
theorem dX2_lineUp_85 : decode cX2_lineUp 85 = .ok (.iastore, 1) := by decide +kernel
theorem dX2_lineUp_86 : decode cX2_lineUp 86 = .ok (.iinc 1 1, 3) := by decide +kernel
theorem dX2_lineUp_89 : decode cX2_lineUp 89 = .ok (.iinc 2 1, 3) := by decide +kernel
theorem dX2_lineUp_92 : decode cX2_lineUp 92 = .ok (.goto (-88), 3) := by decide +kernel
theorem dX2_lineUp_95 : decode cX2_lineUp 95 = .ok (.iload_n 1, 1) := by decide +kernel
theorem dX2_lineUp_96 : decode cX2_lineUp 96 = .ok (.ireturn, 1) := by decide +kernel
theorem dX2_inLine_0 : decode cX2_inLine 0 = .ok (.iload_n 1, 1) := by decide +kernel
theorem dX2_inLine_1 : decode cX2_inLine 1 = .ok (.ifCond .lt 21, 3) := by decide +kernel
theorem dX2_inLine_4 : decode cX2_inLine 4 = .ok (.iload_n 1, 1) := by decide +kernel
theorem dX2_inLine_5 : decode cX2_inLine 5 = .ok (.aload_n 0, 1) := by decide +kernel
theorem dX2_inLine_6 : decode cX2_inLine 6 = .ok (.getfield 65, 3) := by decide +kernel
theorem dX2_inLine_9 : decode cX2_inLine 9 = .ok (.arraylength, 1) := by decide +kernel
theorem dX2_inLine_10 : decode cX2_inLine 10 = .ok (.if_icmp .ge 12, 3) := by decide +kernel
theorem dX2_inLine_13 : decode cX2_inLine 13 = .ok (.aload_n 0, 1) := by decide +kernel
theorem dX2_inLine_14 : decode cX2_inLine 14 = .ok (.getfield 65, 3) := by decide +kernel
theorem dX2_inLine_17 : decode cX2_inLine 17 = .ok (.iload_n 1, 1) := by decide +kernel
theorem dX2_inLine_18 : decode cX2_inLine 18 = .ok (.iaload, 1) := by decide +kernel
theorem dX2_inLine_19 : decode cX2_inLine 19 = .ok (.goto 4, 3) := by decide +kernel
theorem dX2_inLine_22 : decode cX2_inLine 22 = .ok (.iconst (-1), 1) := by decide +kernel
theorem dX2_inLine_23 : decode cX2_inLine 23 = .ok (.ireturn, 1) := by decide +kernel
theorem dX2_quotientUp_0 : decode cX2_quotientUp 0 = .ok (.iload_n 1, 1) := by decide +kernel
theorem dX2_quotientUp_1 : decode cX2_quotientUp 1 = .ok (.ifCond .le 13, 3) := by decide +kernel
theorem dX2_quotientUp_4 : decode cX2_quotientUp 4 = .ok (.iload_n 0, 1) := by decide +kernel
theorem dX2_quotientUp_5 : decode cX2_quotientUp 5 = .ok (.iload_n 1, 1) := by decide +kernel
theorem dX2_quotientUp_6 : decode cX2_quotientUp 6 = .ok (.iadd, 1) := by decide +kernel
theorem dX2_quotientUp_7 : decode cX2_quotientUp 7 = .ok (.iconst 1, 1) := by decide +kernel
theorem dX2_quotientUp_8 : decode cX2_quotientUp 8 = .ok (.isub, 1) := by decide +kernel
theorem dX2_quotientUp_9 : decode cX2_quotientUp 9 = .ok (.iload_n 1, 1) := by decide +kernel
theorem dX2_quotientUp_10 : decode cX2_quotientUp 10 = .ok (.idiv, 1) := by decide +kernel
theorem dX2_quotientUp_11 : decode cX2_quotientUp 11 = .ok (.goto 4, 3) := by decide +kernel
theorem dX2_quotientUp_14 : decode cX2_quotientUp 14 = .ok (.iconst 0, 1) := by decide +kernel
theorem dX2_quotientUp_15 : decode cX2_quotientUp 15 = .ok (.ireturn, 1) := by decide +kernel
theorem dX2_noteStalled_0 : decode cX2_noteStalled 0 = .ok (.aload_n 0, 1) := by decide +kernel
theorem dX2_noteStalled_1 : decode cX2_noteStalled 1 = .ok (.getfield 9, 3) := by decide +kernel
theorem dX2_noteStalled_4 : decode cX2_noteStalled 4 = .ok (.iconst 3, 1) := by decide +kernel
theorem dX2_noteStalled_5 : decode cX2_noteStalled 5 = .ok (.ishr, 1) := by decide +kernel
theorem dX2_noteStalled_6 : decode cX2_noteStalled 6 = .ok (.istore_n 2, 1) := by decide +kernel
theorem dX2_noteStalled_7 : decode cX2_noteStalled 7 = .ok (.iload_n 2, 1) := by decide +kernel
theorem dX2_noteStalled_8 : decode cX2_noteStalled 8 = .ok (.ifCond .lt 35, 3) := by decide +kernel
theorem dX2_noteStalled_11 : decode cX2_noteStalled 11 = .ok (.iload_n 2, 1) := by decide +kernel
theorem dX2_noteStalled_12 : decode cX2_noteStalled 12 = .ok (.aload_n 0, 1) := by decide +kernel
theorem dX2_noteStalled_13 : decode cX2_noteStalled 13 = .ok (.getfield 39, 3) := by decide +kernel
theorem dX2_noteStalled_16 : decode cX2_noteStalled 16 = .ok (.arraylength, 1) := by decide +kernel
theorem dX2_noteStalled_17 : decode cX2_noteStalled 17 = .ok (.if_icmp .ge 26, 3) := by decide +kernel
theorem dX2_noteStalled_20 : decode cX2_noteStalled 20 = .ok (.aload_n 0, 1) := by decide +kernel
theorem dX2_noteStalled_21 : decode cX2_noteStalled 21 = .ok (.getfield 39, 3) := by decide +kernel
theorem dX2_noteStalled_24 : decode cX2_noteStalled 24 = .ok (.iload_n 2, 1) := by decide +kernel
theorem dX2_noteStalled_25 : decode cX2_noteStalled 25 = .ok (.dup2, 1) := by decide +kernel
theorem dX2_noteStalled_26 : decode cX2_noteStalled 26 = .ok (.laload, 1) := by decide +kernel
theorem dX2_noteStalled_27 : decode cX2_noteStalled 27 = .ok (.lconst 1, 1) := by decide +kernel
theorem dX2_noteStalled_28 : decode cX2_noteStalled 28 = .ok (.aload_n 0, 1) := by decide +kernel
theorem dX2_noteStalled_29 : decode cX2_noteStalled 29 = .ok (.getfield 9, 3) := by decide +kernel
theorem dX2_noteStalled_32 : decode cX2_noteStalled 32 = .ok (.bipush 7, 2) := by decide +kernel
theorem dX2_noteStalled_34 : decode cX2_noteStalled 34 = .ok (.iand, 1) := by decide +kernel
theorem dX2_noteStalled_35 : decode cX2_noteStalled 35 = .ok (.bipush 8, 2) := by decide +kernel
theorem dX2_noteStalled_37 : decode cX2_noteStalled 37 = .ok (.imul, 1) := by decide +kernel
theorem dX2_noteStalled_38 : decode cX2_noteStalled 38 = .ok (.iload_n 1, 1) := by decide +kernel
theorem dX2_noteStalled_39 : decode cX2_noteStalled 39 = .ok (.iadd, 1) := by decide +kernel
theorem dX2_noteStalled_40 : decode cX2_noteStalled 40 = .ok (.lshl, 1) := by decide +kernel
theorem dX2_noteStalled_41 : decode cX2_noteStalled 41 = .ok (.lor, 1) := by decide +kernel
theorem dX2_noteStalled_42 : decode cX2_noteStalled 42 = .ok (.lastore, 1) := by decide +kernel
theorem dX2_noteStalled_43 : decode cX2_noteStalled 43 = .ok (.return_, 1) := by decide +kernel
theorem dX2_fineFor_0 : decode cX2_fineFor 0 = .ok (.aload_n 0, 1) := by decide +kernel
theorem dX2_fineFor_1 : decode cX2_fineFor 1 = .ok (.getfield 56, 3) := by decide +kernel
theorem dX2_fineFor_4 : decode cX2_fineFor 4 = .ok (.iload_n 1, 1) := by decide +kernel
theorem dX2_fineFor_5 : decode cX2_fineFor 5 = .ok (.iconst 0, 1) := by decide +kernel
theorem dX2_fineFor_6 : decode cX2_fineFor 6 = .ok (.invokevirtual 100, 3) := by decide +kernel
theorem dX2_fineFor_9 : decode cX2_fineFor 9 = .ok (.istore_n 3, 1) := by decide +kernel
theorem dX2_fineFor_10 : decode cX2_fineFor 10 = .ok (.aload_n 0, 1) := by decide +kernel
theorem dX2_fineFor_11 : decode cX2_fineFor 11 = .ok (.getfield 52, 3) := by decide +kernel
theorem dX2_fineFor_14 : decode cX2_fineFor 14 = .ok (.iload_n 3, 1) := by decide +kernel
theorem dX2_fineFor_15 : decode cX2_fineFor 15 = .ok (.iconst 0, 1) := by decide +kernel
theorem dX2_fineFor_16 : decode cX2_fineFor 16 = .ok (.invokevirtual 100, 3) := by decide +kernel
theorem dX2_fineFor_19 : decode cX2_fineFor 19 = .ok (.istore 4, 2) := by decide +kernel
theorem dX2_fineFor_21 : decode cX2_fineFor 21 = .ok (.aload_n 0, 1) := by decide +kernel
theorem dX2_fineFor_22 : decode cX2_fineFor 22 = .ok (.getfield 56, 3) := by decide +kernel
theorem dX2_fineFor_25 : decode cX2_fineFor 25 = .ok (.iload_n 1, 1) := by decide +kernel
theorem dX2_fineFor_26 : decode cX2_fineFor 26 = .ok (.iconst 2, 1) := by decide +kernel
theorem dX2_fineFor_27 : decode cX2_fineFor 27 = .ok (.invokevirtual 100, 3) := by decide +kernel
theorem dX2_fineFor_30 : decode cX2_fineFor 30 = .ok (.aload_n 0, 1) := by decide +kernel
theorem dX2_fineFor_31 : decode cX2_fineFor 31 = .ok (.getfield 33, 3) := by decide +kernel
theorem dX2_fineFor_34 : decode cX2_fineFor 34 = .ok (.invokestatic 87, 3) := by decide +kernel
theorem dX2_fineFor_37 : decode cX2_fineFor 37 = .ok (.istore 5, 2) := by decide +kernel
theorem dX2_fineFor_39 : decode cX2_fineFor 39 = .ok (.aload_n 0, 1) := by decide +kernel
theorem dX2_fineFor_40 : decode cX2_fineFor 40 = .ok (.getfield 9, 3) := by decide +kernel
theorem dX2_fineFor_43 : decode cX2_fineFor 43 = .ok (.iload 5, 2) := by decide +kernel
theorem dX2_fineFor_45 : decode cX2_fineFor 45 = .ok (.isub, 1) := by decide +kernel
theorem dX2_fineFor_46 : decode cX2_fineFor 46 = .ok (.aload_n 0, 1) := by decide +kernel
theorem dX2_fineFor_47 : decode cX2_fineFor 47 = .ok (.getfield 56, 3) := by decide +kernel
theorem dX2_fineFor_50 : decode cX2_fineFor 50 = .ok (.iload_n 1, 1) := by decide +kernel
theorem dX2_fineFor_51 : decode cX2_fineFor 51 = .ok (.iconst 1, 1) := by decide +kernel
theorem dX2_fineFor_52 : decode cX2_fineFor 52 = .ok (.invokevirtual 100, 3) := by decide +kernel
theorem dX2_fineFor_55 : decode cX2_fineFor 55 = .ok (.imul, 1) := by decide +kernel
theorem dX2_fineFor_56 : decode cX2_fineFor 56 = .ok (.istore 6, 2) := by decide +kernel
theorem dX2_fineFor_58 : decode cX2_fineFor 58 = .ok (.sipush 200, 3) := by decide +kernel
theorem dX2_fineFor_61 : decode cX2_fineFor 61 = .ok (.iload 6, 2) := by decide +kernel
theorem dX2_fineFor_63 : decode cX2_fineFor 63 = .ok (.iload_n 2, 1) := by decide +kernel
theorem dX2_fineFor_64 : decode cX2_fineFor 64 = .ok (.iload 4, 2) := by decide +kernel
theorem dX2_fineFor_66 : decode cX2_fineFor 66 = .ok (.iadd, 1) := by decide +kernel
theorem dX2_fineFor_67 : decode cX2_fineFor 67 = .ok (.imul, 1) := by decide +kernel
theorem dX2_fineFor_68 : decode cX2_fineFor 68 = .ok (.bipush 100, 2) := by decide +kernel
theorem dX2_fineFor_70 : decode cX2_fineFor 70 = .ok (.invokestatic 139, 3) := by decide +kernel
theorem dX2_fineFor_73 : decode cX2_fineFor 73 = .ok (.invokestatic 172, 3) := by decide +kernel
theorem dX2_fineFor_76 : decode cX2_fineFor 76 = .ok (.istore 7, 2) := by decide +kernel
theorem dX2_fineFor_78 : decode cX2_fineFor 78 = .ok (.aload_n 0, 1) := by decide +kernel
theorem dX2_fineFor_79 : decode cX2_fineFor 79 = .ok (.getfield 27, 3) := by decide +kernel
theorem dX2_fineFor_82 : decode cX2_fineFor 82 = .ok (.bipush 40, 2) := by decide +kernel
theorem dX2_fineFor_84 : decode cX2_fineFor 84 = .ok (.irem, 1) := by decide +kernel
theorem dX2_fineFor_85 : decode cX2_fineFor 85 = .ok (.istore 8, 2) := by decide +kernel
theorem dX2_fineFor_87 : decode cX2_fineFor 87 = .ok (.aload_n 0, 1) := by decide +kernel
theorem dX2_fineFor_88 : decode cX2_fineFor 88 = .ok (.dup, 1) := by decide +kernel
theorem dX2_fineFor_89 : decode cX2_fineFor 89 = .ok (.getfield 27, 3) := by decide +kernel
theorem dX2_fineFor_92 : decode cX2_fineFor 92 = .ok (.iconst 1, 1) := by decide +kernel
theorem dX2_fineFor_93 : decode cX2_fineFor 93 = .ok (.iadd, 1) := by decide +kernel
theorem dX2_fineFor_94 : decode cX2_fineFor 94 = .ok (.putfield 27, 3) := by decide +kernel
theorem dX2_fineFor_97 : decode cX2_fineFor 97 = .ok (.aload_n 0, 1) := by decide +kernel
theorem dX2_fineFor_98 : decode cX2_fineFor 98 = .ok (.getfield 62, 3) := by decide +kernel
theorem dX2_fineFor_101 : decode cX2_fineFor 101 = .ok (.iload 8, 2) := by decide +kernel
theorem dX2_fineFor_103 : decode cX2_fineFor 103 = .ok (.iconst 0, 1) := by decide +kernel
theorem dX2_fineFor_104 : decode cX2_fineFor 104 = .ok (.iload_n 3, 1) := by decide +kernel
theorem dX2_fineFor_105 : decode cX2_fineFor 105 = .ok (.invokevirtual 93, 3) := by decide +kernel
theorem dX2_fineFor_108 : decode cX2_fineFor 108 = .ok (.aload_n 0, 1) := by decide +kernel
theorem dX2_fineFor_109 : decode cX2_fineFor 109 = .ok (.getfield 62, 3) := by decide +kernel
theorem dX2_fineFor_112 : decode cX2_fineFor 112 = .ok (.iload 8, 2) := by decide +kernel
theorem dX2_fineFor_114 : decode cX2_fineFor 114 = .ok (.iconst 1, 1) := by decide +kernel
theorem dX2_fineFor_115 : decode cX2_fineFor 115 = .ok (.iload_n 1, 1) := by decide +kernel
theorem dX2_fineFor_116 : decode cX2_fineFor 116 = .ok (.invokevirtual 93, 3) := by decide +kernel
theorem dX2_fineFor_119 : decode cX2_fineFor 119 = .ok (.aload_n 0, 1) := by decide +kernel
theorem dX2_fineFor_120 : decode cX2_fineFor 120 = .ok (.getfield 62, 3) := by decide +kernel
theorem dX2_fineFor_123 : decode cX2_fineFor 123 = .ok (.iload 8, 2) := by decide +kernel
theorem dX2_fineFor_125 : decode cX2_fineFor 125 = .ok (.iconst 2, 1) := by decide +kernel
theorem dX2_fineFor_126 : decode cX2_fineFor 126 = .ok (.iload 6, 2) := by decide +kernel
theorem dX2_fineFor_128 : decode cX2_fineFor 128 = .ok (.invokevirtual 93, 3) := by decide +kernel
theorem dX2_fineFor_131 : decode cX2_fineFor 131 = .ok (.aload_n 0, 1) := by decide +kernel
theorem dX2_fineFor_132 : decode cX2_fineFor 132 = .ok (.getfield 62, 3) := by decide +kernel
theorem dX2_fineFor_135 : decode cX2_fineFor 135 = .ok (.iload 8, 2) := by decide +kernel
theorem dX2_fineFor_137 : decode cX2_fineFor 137 = .ok (.iconst 3, 1) := by decide +kernel
theorem dX2_fineFor_138 : decode cX2_fineFor 138 = .ok (.iload 5, 2) := by decide +kernel
theorem dX2_fineFor_140 : decode cX2_fineFor 140 = .ok (.invokevirtual 93, 3) := by decide +kernel
theorem dX2_fineFor_143 : decode cX2_fineFor 143 = .ok (.aload_n 0, 1) := by decide +kernel
theorem dX2_fineFor_144 : decode cX2_fineFor 144 = .ok (.getfield 62, 3) := by decide +kernel
theorem dX2_fineFor_147 : decode cX2_fineFor 147 = .ok (.iload 8, 2) := by decide +kernel
theorem dX2_fineFor_149 : decode cX2_fineFor 149 = .ok (.iconst 4, 1) := by decide +kernel
theorem dX2_fineFor_150 : decode cX2_fineFor 150 = .ok (.aload_n 0, 1) := by decide +kernel
theorem dX2_fineFor_151 : decode cX2_fineFor 151 = .ok (.getfield 9, 3) := by decide +kernel
theorem dX2_fineFor_154 : decode cX2_fineFor 154 = .ok (.invokevirtual 93, 3) := by decide +kernel
theorem dX2_fineFor_157 : decode cX2_fineFor 157 = .ok (.aload_n 0, 1) := by decide +kernel
theorem dX2_fineFor_158 : decode cX2_fineFor 158 = .ok (.getfield 62, 3) := by decide +kernel
theorem dX2_fineFor_161 : decode cX2_fineFor 161 = .ok (.iload 8, 2) := by decide +kernel
theorem dX2_fineFor_163 : decode cX2_fineFor 163 = .ok (.iconst 5, 1) := by decide +kernel
theorem dX2_fineFor_164 : decode cX2_fineFor 164 = .ok (.iload 7, 2) := by decide +kernel
theorem dX2_fineFor_166 : decode cX2_fineFor 166 = .ok (.invokevirtual 93, 3) := by decide +kernel
theorem dX2_fineFor_169 : decode cX2_fineFor 169 = .ok (.aload_n 0, 1) := by decide +kernel
theorem dX2_fineFor_170 : decode cX2_fineFor 170 = .ok (.getfield 62, 3) := by decide +kernel
theorem dX2_fineFor_173 : decode cX2_fineFor 173 = .ok (.iload 8, 2) := by decide +kernel
theorem dX2_fineFor_175 : decode cX2_fineFor 175 = .ok (.bipush 6, 2) := by decide +kernel
theorem dX2_fineFor_177 : decode cX2_fineFor 177 = .ok (.iconst 0, 1) := by decide +kernel
theorem dX2_fineFor_178 : decode cX2_fineFor 178 = .ok (.invokevirtual 93, 3) := by decide +kernel
theorem dX2_fineFor_181 : decode cX2_fineFor 181 = .ok (.aload_n 0, 1) := by decide +kernel
theorem dX2_fineFor_182 : decode cX2_fineFor 182 = .ok (.getfield 62, 3) := by decide +kernel
theorem dX2_fineFor_185 : decode cX2_fineFor 185 = .ok (.iload 8, 2) := by decide +kernel
theorem dX2_fineFor_187 : decode cX2_fineFor 187 = .ok (.bipush 7, 2) := by decide +kernel
theorem dX2_fineFor_189 : decode cX2_fineFor 189 = .ok (.iload 7, 2) := by decide +kernel
theorem dX2_fineFor_191 : decode cX2_fineFor 191 = .ok (.invokevirtual 93, 3) := by decide +kernel
theorem dX2_fineFor_194 : decode cX2_fineFor 194 = .ok (.aload_n 0, 1) := by decide +kernel
theorem dX2_fineFor_195 : decode cX2_fineFor 195 = .ok (.getfield 52, 3) := by decide +kernel
theorem dX2_fineFor_198 : decode cX2_fineFor 198 = .ok (.iload_n 3, 1) := by decide +kernel
theorem dX2_fineFor_199 : decode cX2_fineFor 199 = .ok (.iconst 3, 1) := by decide +kernel
theorem dX2_fineFor_200 : decode cX2_fineFor 200 = .ok (.iconst 1, 1) := by decide +kernel
theorem dX2_fineFor_201 : decode cX2_fineFor 201 = .ok (.invokevirtual 97, 3) := by decide +kernel
theorem dX2_fineFor_204 : decode cX2_fineFor 204 = .ok (.aload_n 0, 1) := by decide +kernel
theorem dX2_fineFor_205 : decode cX2_fineFor 205 = .ok (.getfield 52, 3) := by decide +kernel
theorem dX2_fineFor_208 : decode cX2_fineFor 208 = .ok (.iload_n 3, 1) := by decide +kernel
theorem dX2_fineFor_209 : decode cX2_fineFor 209 = .ok (.iconst 1, 1) := by decide +kernel
theorem dX2_fineFor_210 : decode cX2_fineFor 210 = .ok (.sipush 999, 3) := by decide +kernel
theorem dX2_fineFor_213 : decode cX2_fineFor 213 = .ok (.aload_n 0, 1) := by decide +kernel
theorem dX2_fineFor_214 : decode cX2_fineFor 214 = .ok (.getfield 52, 3) := by decide +kernel
theorem dX2_fineFor_217 : decode cX2_fineFor 217 = .ok (.iload_n 3, 1) := by decide +kernel
theorem dX2_fineFor_218 : decode cX2_fineFor 218 = .ok (.iconst 1, 1) := by decide +kernel
theorem dX2_fineFor_219 : decode cX2_fineFor 219 = .ok (.invokevirtual 100, 3) := by decide +kernel
theorem dX2_fineFor_222 : decode cX2_fineFor 222 = .ok (.iload 7, 2) := by decide +kernel
theorem dX2_fineFor_224 : decode cX2_fineFor 224 = .ok (.iadd, 1) := by decide +kernel
theorem dX2_fineFor_225 : decode cX2_fineFor 225 = .ok (.invokestatic 172, 3) := by decide +kernel
theorem dX2_fineFor_228 : decode cX2_fineFor 228 = .ok (.invokevirtual 93, 3) := by decide +kernel
theorem dX2_fineFor_231 : decode cX2_fineFor 231 = .ok (.aload_n 0, 1) := by decide +kernel
theorem dX2_fineFor_232 : decode cX2_fineFor 232 = .ok (.getfield 52, 3) := by decide +kernel
theorem dX2_fineFor_235 : decode cX2_fineFor 235 = .ok (.iload_n 3, 1) := by decide +kernel
theorem dX2_fineFor_236 : decode cX2_fineFor 236 = .ok (.iconst 0, 1) := by decide +kernel
theorem dX2_fineFor_237 : decode cX2_fineFor 237 = .ok (.sipush 999, 3) := by decide +kernel
theorem dX2_fineFor_240 : decode cX2_fineFor 240 = .ok (.iload 4, 2) := by decide +kernel
theorem dX2_fineFor_242 : decode cX2_fineFor 242 = .ok (.iload 6, 2) := by decide +kernel
theorem dX2_fineFor_244 : decode cX2_fineFor 244 = .ok (.iadd, 1) := by decide +kernel
theorem dX2_fineFor_245 : decode cX2_fineFor 245 = .ok (.invokestatic 172, 3) := by decide +kernel
theorem dX2_fineFor_248 : decode cX2_fineFor 248 = .ok (.invokevirtual 93, 3) := by decide +kernel
theorem dX2_fineFor_251 : decode cX2_fineFor 251 = .ok (.iload 7, 2) := by decide +kernel
theorem dX2_fineFor_253 : decode cX2_fineFor 253 = .ok (.ireturn, 1) := by decide +kernel
theorem dX2_hearFines_0 : decode cX2_hearFines 0 = .ok (.iconst 0, 1) := by decide +kernel
theorem dX2_hearFines_1 : decode cX2_hearFines 1 = .ok (.istore_n 2, 1) := by decide +kernel
theorem dX2_hearFines_2 : decode cX2_hearFines 2 = .ok (.iload_n 2, 1) := by decide +kernel
theorem dX2_hearFines_3 : decode cX2_hearFines 3 = .ok (.aload_n 0, 1) := by decide +kernel
theorem dX2_hearFines_4 : decode cX2_hearFines 4 = .ok (.getfield 21, 3) := by decide +kernel
theorem dX2_hearFines_7 : decode cX2_hearFines 7 = .ok (.if_icmp .ge 39, 3) := by decide +kernel
theorem dX2_hearFines_10 : decode cX2_hearFines 10 = .ok (.aload_n 0, 1) := by decide +kernel
theorem dX2_hearFines_11 : decode cX2_hearFines 11 = .ok (.getfield 56, 3) := by decide +kernel
theorem dX2_hearFines_14 : decode cX2_hearFines 14 = .ok (.iload_n 2, 1) := by decide +kernel
theorem dX2_hearFines_15 : decode cX2_hearFines 15 = .ok (.iconst 5, 1) := by decide +kernel
theorem dX2_hearFines_16 : decode cX2_hearFines 16 = .ok (.aload_n 0, 1) := by decide +kernel
theorem dX2_hearFines_17 : decode cX2_hearFines 17 = .ok (.iload_n 2, 1) := by decide +kernel
theorem dX2_hearFines_18 : decode cX2_hearFines 18 = .ok (.invokevirtual 107, 3) := by decide +kernel
theorem dX2_hearFines_21 : decode cX2_hearFines 21 = .ok (.ifCond .eq 15, 3) := by decide +kernel
theorem dX2_hearFines_24 : decode cX2_hearFines 24 = .ok (.aload_n 0, 1) := by decide +kernel
theorem dX2_hearFines_25 : decode cX2_hearFines 25 = .ok (.iload_n 2, 1) := by decide +kernel
theorem dX2_hearFines_26 : decode cX2_hearFines 26 = .ok (.aload_n 1, 1) := by decide +kernel
theorem dX2_hearFines_27 : decode cX2_hearFines 27 = .ok (.getfield 166, 3) := by decide +kernel
theorem dX2_hearFines_30 : decode cX2_hearFines 30 = .ok (.invokevirtual 169, 3) := by decide +kernel
theorem dX2_hearFines_33 : decode cX2_hearFines 33 = .ok (.goto 4, 3) := by decide +kernel
theorem dX2_hearFines_36 : decode cX2_hearFines 36 = .ok (.iconst 0, 1) := by decide +kernel
theorem dX2_hearFines_37 : decode cX2_hearFines 37 = .ok (.invokevirtual 93, 3) := by decide +kernel
theorem dX2_hearFines_40 : decode cX2_hearFines 40 = .ok (.iinc 2 1, 3) := by decide +kernel
theorem dX2_hearFines_43 : decode cX2_hearFines 43 = .ok (.goto (-41), 3) := by decide +kernel
theorem dX2_hearFines_46 : decode cX2_hearFines 46 = .ok (.return_, 1) := by decide +kernel
theorem dX2_takeBack_0 : decode cX2_takeBack 0 = .ok (.iload_n 1, 1) := by decide +kernel
theorem dX2_takeBack_1 : decode cX2_takeBack 1 = .ok (.istore_n 2, 1) := by decide +kernel
theorem dX2_takeBack_2 : decode cX2_takeBack 2 = .ok (.iconst 0, 1) := by decide +kernel
theorem dX2_takeBack_3 : decode cX2_takeBack 3 = .ok (.istore_n 3, 1) := by decide +kernel
theorem dX2_takeBack_4 : decode cX2_takeBack 4 = .ok (.iload_n 3, 1) := by decide +kernel
theorem dX2_takeBack_5 : decode cX2_takeBack 5 = .ok (.aload_n 0, 1) := by decide +kernel
theorem dX2_takeBack_6 : decode cX2_takeBack 6 = .ok (.getfield 21, 3) := by decide +kernel
theorem dX2_takeBack_9 : decode cX2_takeBack 9 = .ok (.if_icmp .ge 72, 3) := by decide +kernel
theorem dX2_takeBack_12 : decode cX2_takeBack 12 = .ok (.iload_n 2, 1) := by decide +kernel
theorem dX2_takeBack_13 : decode cX2_takeBack 13 = .ok (.ifCond .le 68, 3) := by decide +kernel
theorem dX2_takeBack_16 : decode cX2_takeBack 16 = .ok (.aload_n 0, 1) := by decide +kernel
theorem dX2_takeBack_17 : decode cX2_takeBack 17 = .ok (.invokevirtual 201, 3) := by decide +kernel
theorem dX2_takeBack_20 : decode cX2_takeBack 20 = .ok (.istore 4, 2) := by decide +kernel
theorem dX2_takeBack_22 : decode cX2_takeBack 22 = .ok (.iload_n 2, 1) := by decide +kernel
theorem dX2_takeBack_23 : decode cX2_takeBack 23 = .ok (.aload_n 0, 1) := by decide +kernel
theorem dX2_takeBack_24 : decode cX2_takeBack 24 = .ok (.getfield 56, 3) := by decide +kernel
theorem dX2_takeBack_27 : decode cX2_takeBack 27 = .ok (.iload 4, 2) := by decide +kernel
theorem dX2_takeBack_29 : decode cX2_takeBack 29 = .ok (.iconst 1, 1) := by decide +kernel
theorem dX2_takeBack_30 : decode cX2_takeBack 30 = .ok (.invokevirtual 100, 3) := by decide +kernel
theorem dX2_takeBack_33 : decode cX2_takeBack 33 = .ok (.invokestatic 172, 3) := by decide +kernel
theorem dX2_takeBack_36 : decode cX2_takeBack 36 = .ok (.istore 5, 2) := by decide +kernel
theorem dX2_takeBack_38 : decode cX2_takeBack 38 = .ok (.aload_n 0, 1) := by decide +kernel
theorem dX2_takeBack_39 : decode cX2_takeBack 39 = .ok (.iload 4, 2) := by decide +kernel
theorem dX2_takeBack_41 : decode cX2_takeBack 41 = .ok (.iload 5, 2) := by decide +kernel
theorem dX2_takeBack_43 : decode cX2_takeBack 43 = .ok (.invokevirtual 204, 3) := by decide +kernel
theorem dX2_takeBack_46 : decode cX2_takeBack 46 = .ok (.aload_n 0, 1) := by decide +kernel
theorem dX2_takeBack_47 : decode cX2_takeBack 47 = .ok (.getfield 56, 3) := by decide +kernel
theorem dX2_takeBack_50 : decode cX2_takeBack 50 = .ok (.iload 4, 2) := by decide +kernel
theorem dX2_takeBack_52 : decode cX2_takeBack 52 = .ok (.bipush 6, 2) := by decide +kernel
theorem dX2_takeBack_54 : decode cX2_takeBack 54 = .ok (.iload 5, 2) := by decide +kernel
theorem dX2_takeBack_56 : decode cX2_takeBack 56 = .ok (.invokevirtual 97, 3) := by decide +kernel
theorem dX2_takeBack_59 : decode cX2_takeBack 59 = .ok (.aload_n 0, 1) := by decide +kernel
theorem dX2_takeBack_60 : decode cX2_takeBack 60 = .ok (.dup, 1) := by decide +kernel
theorem dX2_takeBack_61 : decode cX2_takeBack 61 = .ok (.getfield 36, 3) := by decide +kernel
theorem dX2_takeBack_64 : decode cX2_takeBack 64 = .ok (.iload 5, 2) := by decide +kernel
theorem dX2_takeBack_66 : decode cX2_takeBack 66 = .ok (.iadd, 1) := by decide +kernel
theorem dX2_takeBack_67 : decode cX2_takeBack 67 = .ok (.putfield 36, 3) := by decide +kernel
theorem dX2_takeBack_70 : decode cX2_takeBack 70 = .ok (.iload_n 2, 1) := by decide +kernel
theorem dX2_takeBack_71 : decode cX2_takeBack 71 = .ok (.iload 5, 2) := by decide +kernel
theorem dX2_takeBack_73 : decode cX2_takeBack 73 = .ok (.isub, 1) := by decide +kernel
theorem dX2_takeBack_74 : decode cX2_takeBack 74 = .ok (.istore_n 2, 1) := by decide +kernel
theorem dX2_takeBack_75 : decode cX2_takeBack 75 = .ok (.iinc 3 1, 3) := by decide +kernel
theorem dX2_takeBack_78 : decode cX2_takeBack 78 = .ok (.goto (-74), 3) := by decide +kernel
theorem dX2_takeBack_81 : decode cX2_takeBack 81 = .ok (.return_, 1) := by decide +kernel
theorem dX2_putOff_0 : decode cX2_putOff 0 = .ok (.aload_n 0, 1) := by decide +kernel
theorem dX2_putOff_1 : decode cX2_putOff 1 = .ok (.getfield 59, 3) := by decide +kernel
theorem dX2_putOff_4 : decode cX2_putOff 4 = .ok (.iload_n 1, 1) := by decide +kernel
theorem dX2_putOff_5 : decode cX2_putOff 5 = .ok (.iconst 4, 1) := by decide +kernel
theorem dX2_putOff_6 : decode cX2_putOff 6 = .ok (.iconst 1, 1) := by decide +kernel
theorem dX2_putOff_7 : decode cX2_putOff 7 = .ok (.invokevirtual 97, 3) := by decide +kernel
theorem dX2_putOff_10 : decode cX2_putOff 10 = .ok (.aload_n 0, 1) := by decide +kernel
theorem dX2_putOff_11 : decode cX2_putOff 11 = .ok (.getfield 59, 3) := by decide +kernel
theorem dX2_putOff_14 : decode cX2_putOff 14 = .ok (.iload_n 1, 1) := by decide +kernel
theorem dX2_putOff_15 : decode cX2_putOff 15 = .ok (.iconst 4, 1) := by decide +kernel
theorem dX2_putOff_16 : decode cX2_putOff 16 = .ok (.invokevirtual 100, 3) := by decide +kernel
theorem dX2_putOff_19 : decode cX2_putOff 19 = .ok (.iload_n 2, 1) := by decide +kernel
theorem dX2_putOff_20 : decode cX2_putOff 20 = .ok (.if_icmp .lt 13, 3) := by decide +kernel
theorem dX2_putOff_23 : decode cX2_putOff 23 = .ok (.aload_n 0, 1) := by decide +kernel
theorem dX2_putOff_24 : decode cX2_putOff 24 = .ok (.getfield 59, 3) := by decide +kernel
theorem dX2_putOff_27 : decode cX2_putOff 27 = .ok (.iload_n 1, 1) := by decide +kernel
theorem dX2_putOff_28 : decode cX2_putOff 28 = .ok (.iconst 3, 1) := by decide +kernel
theorem dX2_putOff_29 : decode cX2_putOff 29 = .ok (.iconst 2, 1) := by decide +kernel
theorem dX2_putOff_30 : decode cX2_putOff 30 = .ok (.invokevirtual 93, 3) := by decide +kernel
theorem dX2_putOff_33 : decode cX2_putOff 33 = .ok (.return_, 1) := by decide +kernel
theorem dX2_meets_0 : decode cX2_meets 0 = .ok (.aload_n 0, 1) := by decide +kernel
theorem dX2_meets_1 : decode cX2_meets 1 = .ok (.getfield 59, 3) := by decide +kernel
theorem dX2_meets_4 : decode cX2_meets 4 = .ok (.iload_n 1, 1) := by decide +kernel
theorem dX2_meets_5 : decode cX2_meets 5 = .ok (.iconst 0, 1) := by decide +kernel
theorem dX2_meets_6 : decode cX2_meets 6 = .ok (.invokevirtual 100, 3) := by decide +kernel
theorem dX2_meets_9 : decode cX2_meets 9 = .ok (.istore_n 2, 1) := by decide +kernel
theorem dX2_meets_10 : decode cX2_meets 10 = .ok (.aload_n 0, 1) := by decide +kernel
theorem dX2_meets_11 : decode cX2_meets 11 = .ok (.getfield 59, 3) := by decide +kernel
theorem dX2_meets_14 : decode cX2_meets 14 = .ok (.iload_n 1, 1) := by decide +kernel
theorem dX2_meets_15 : decode cX2_meets 15 = .ok (.iconst 1, 1) := by decide +kernel
theorem dX2_meets_16 : decode cX2_meets 16 = .ok (.invokevirtual 100, 3) := by decide +kernel
theorem dX2_meets_19 : decode cX2_meets 19 = .ok (.istore_n 3, 1) := by decide +kernel
theorem dX2_meets_20 : decode cX2_meets 20 = .ok (.aload_n 0, 1) := by decide +kernel
theorem dX2_meets_21 : decode cX2_meets 21 = .ok (.getfield 52, 3) := by decide +kernel
theorem dX2_meets_24 : decode cX2_meets 24 = .ok (.iload_n 2, 1) := by decide +kernel
theorem dX2_meets_25 : decode cX2_meets 25 = .ok (.iconst 1, 1) := by decide +kernel
theorem dX2_meets_26 : decode cX2_meets 26 = .ok (.invokevirtual 100, 3) := by decide +kernel
theorem dX2_meets_29 : decode cX2_meets 29 = .ok (.ifCond .le 5, 3) := by decide +kernel
theorem dX2_meets_32 : decode cX2_meets 32 = .ok (.iconst 0, 1) := by decide +kernel
theorem dX2_meets_33 : decode cX2_meets 33 = .ok (.ireturn, 1) := by decide +kernel
theorem dX2_meets_34 : decode cX2_meets 34 = .ok (.iload_n 3, 1) := by decide +kernel
theorem dX2_meets_35 : decode cX2_meets 35 = .ok (.aload_n 0, 1) := by decide +kernel
theorem dX2_meets_36 : decode cX2_meets 36 = .ok (.getfield 18, 3) := by decide +kernel
theorem dX2_meets_39 : decode cX2_meets 39 = .ok (.if_icmp .le 28, 3) := by decide +kernel
theorem dX2_meets_42 : decode cX2_meets 42 = .ok (.iload_n 3, 1) := by decide +kernel
theorem dX2_meets_43 : decode cX2_meets 43 = .ok (.aload_n 0, 1) := by decide +kernel
theorem dX2_meets_44 : decode cX2_meets 44 = .ok (.getfield 18, 3) := by decide +kernel
theorem dX2_meets_47 : decode cX2_meets 47 = .ok (.isub, 1) := by decide +kernel
theorem dX2_meets_48 : decode cX2_meets 48 = .ok (.aload_n 0, 1) := by decide +kernel
theorem dX2_meets_49 : decode cX2_meets 49 = .ok (.invokevirtual 191, 3) := by decide +kernel
theorem dX2_meets_52 : decode cX2_meets 52 = .ok (.if_icmp .le 5, 3) := by decide +kernel
theorem dX2_meets_55 : decode cX2_meets 55 = .ok (.iconst 0, 1) := by decide +kernel
theorem dX2_meets_56 : decode cX2_meets 56 = .ok (.ireturn, 1) := by decide +kernel
theorem dX2_meets_57 : decode cX2_meets 57 = .ok (.aload_n 0, 1) := by decide +kernel
theorem dX2_meets_58 : decode cX2_meets 58 = .ok (.iload_n 3, 1) := by decide +kernel
theorem dX2_meets_59 : decode cX2_meets 59 = .ok (.aload_n 0, 1) := by decide +kernel
theorem dX2_meets_60 : decode cX2_meets 60 = .ok (.getfield 18, 3) := by decide +kernel
theorem dX2_meets_63 : decode cX2_meets 63 = .ok (.isub, 1) := by decide +kernel
theorem dX2_meets_64 : decode cX2_meets 64 = .ok (.invokevirtual 194, 3) := by decide +kernel
theorem dX2_meets_67 : decode cX2_meets 67 = .ok (.aload_n 0, 1) := by decide +kernel
theorem dX2_meets_68 : decode cX2_meets 68 = .ok (.iload_n 2, 1) := by decide +kernel
theorem dX2_meets_69 : decode cX2_meets 69 = .ok (.iload_n 3, 1) := by decide +kernel
theorem dX2_meets_70 : decode cX2_meets 70 = .ok (.aload_n 0, 1) := by decide +kernel
theorem dX2_meets_71 : decode cX2_meets 71 = .ok (.getfield 9, 3) := by decide +kernel
theorem dX2_meets_74 : decode cX2_meets 74 = .ok (.aload_n 0, 1) := by decide +kernel
theorem dX2_meets_75 : decode cX2_meets 75 = .ok (.getfield 59, 3) := by decide +kernel
theorem dX2_meets_78 : decode cX2_meets 78 = .ok (.iload_n 1, 1) := by decide +kernel
theorem dX2_meets_79 : decode cX2_meets 79 = .ok (.iconst 2, 1) := by decide +kernel
theorem dX2_meets_80 : decode cX2_meets 80 = .ok (.invokevirtual 100, 3) := by decide +kernel
theorem dX2_meets_83 : decode cX2_meets 83 = .ok (.iadd, 1) := by decide +kernel
theorem dX2_meets_84 : decode cX2_meets 84 = .ok (.iload_n 1, 1) := by decide +kernel
theorem dX2_meets_85 : decode cX2_meets 85 = .ok (.invokevirtual 197, 3) := by decide +kernel
theorem dX2_meets_88 : decode cX2_meets 88 = .ok (.istore 4, 2) := by decide +kernel
theorem dX2_meets_90 : decode cX2_meets 90 = .ok (.aload_n 0, 1) := by decide +kernel
theorem dX2_meets_91 : decode cX2_meets 91 = .ok (.getfield 59, 3) := by decide +kernel
theorem dX2_meets_94 : decode cX2_meets 94 = .ok (.iload_n 1, 1) := by decide +kernel
theorem dX2_meets_95 : decode cX2_meets 95 = .ok (.iconst 3, 1) := by decide +kernel
theorem dX2_meets_96 : decode cX2_meets 96 = .ok (.iconst 1, 1) := by decide +kernel
theorem dX2_meets_97 : decode cX2_meets 97 = .ok (.invokevirtual 93, 3) := by decide +kernel
theorem dX2_meets_100 : decode cX2_meets 100 = .ok (.aload_n 0, 1) := by decide +kernel
theorem dX2_meets_101 : decode cX2_meets 101 = .ok (.getfield 59, 3) := by decide +kernel
theorem dX2_meets_104 : decode cX2_meets 104 = .ok (.iload_n 1, 1) := by decide +kernel
theorem dX2_meets_105 : decode cX2_meets 105 = .ok (.iconst 5, 1) := by decide +kernel
theorem dX2_meets_106 : decode cX2_meets 106 = .ok (.iload 4, 2) := by decide +kernel
theorem dX2_meets_108 : decode cX2_meets 108 = .ok (.invokevirtual 93, 3) := by decide +kernel
theorem dX2_meets_111 : decode cX2_meets 111 = .ok (.iconst 1, 1) := by decide +kernel
theorem dX2_meets_112 : decode cX2_meets 112 = .ok (.ireturn, 1) := by decide +kernel
theorem dX2_hearClaims_0 : decode cX2_hearClaims 0 = .ok (.aload_n 0, 1) := by decide +kernel
theorem dX2_hearClaims_1 : decode cX2_hearClaims 1 = .ok (.invokevirtual 175, 3) := by decide +kernel
theorem dX2_hearClaims_4 : decode cX2_hearClaims 4 = .ok (.istore_n 2, 1) := by decide +kernel
theorem dX2_hearClaims_5 : decode cX2_hearClaims 5 = .ok (.iconst 0, 1) := by decide +kernel
theorem dX2_hearClaims_6 : decode cX2_hearClaims 6 = .ok (.istore_n 3, 1) := by decide +kernel
theorem dX2_hearClaims_7 : decode cX2_hearClaims 7 = .ok (.iconst 0, 1) := by decide +kernel
theorem dX2_hearClaims_8 : decode cX2_hearClaims 8 = .ok (.istore 4, 2) := by decide +kernel
theorem dX2_hearClaims_10 : decode cX2_hearClaims 10 = .ok (.iload 4, 2) := by decide +kernel
theorem dX2_hearClaims_12 : decode cX2_hearClaims 12 = .ok (.iload_n 2, 1) := by decide +kernel
theorem dX2_hearClaims_13 : decode cX2_hearClaims 13 = .ok (.if_icmp .ge 42, 3) := by decide +kernel
theorem dX2_hearClaims_16 : decode cX2_hearClaims 16 = .ok (.aload_n 0, 1) := by decide +kernel
theorem dX2_hearClaims_17 : decode cX2_hearClaims 17 = .ok (.iload 4, 2) := by decide +kernel
theorem dX2_hearClaims_19 : decode cX2_hearClaims 19 = .ok (.invokevirtual 179, 3) := by decide +kernel
theorem dX2_hearClaims_22 : decode cX2_hearClaims 22 = .ok (.istore 5, 2) := by decide +kernel
theorem dX2_hearClaims_24 : decode cX2_hearClaims 24 = .ok (.aload_n 0, 1) := by decide +kernel
theorem dX2_hearClaims_25 : decode cX2_hearClaims 25 = .ok (.iload 5, 2) := by decide +kernel
theorem dX2_hearClaims_27 : decode cX2_hearClaims 27 = .ok (.invokevirtual 182, 3) := by decide +kernel
theorem dX2_hearClaims_30 : decode cX2_hearClaims 30 = .ok (.ifCond .eq 9, 3) := by decide +kernel
theorem dX2_hearClaims_33 : decode cX2_hearClaims 33 = .ok (.iinc 3 1, 3) := by decide +kernel
theorem dX2_hearClaims_36 : decode cX2_hearClaims 36 = .ok (.goto 13, 3) := by decide +kernel
theorem dX2_hearClaims_39 : decode cX2_hearClaims 39 = .ok (.aload_n 0, 1) := by decide +kernel
theorem dX2_hearClaims_40 : decode cX2_hearClaims 40 = .ok (.iload 5, 2) := by decide +kernel
theorem dX2_hearClaims_42 : decode cX2_hearClaims 42 = .ok (.aload_n 1, 1) := by decide +kernel
theorem dX2_hearClaims_43 : decode cX2_hearClaims 43 = .ok (.getfield 185, 3) := by decide +kernel
theorem dX2_hearClaims_46 : decode cX2_hearClaims 46 = .ok (.invokevirtual 188, 3) := by decide +kernel
theorem dX2_hearClaims_49 : decode cX2_hearClaims 49 = .ok (.iinc 4 1, 3) := by decide +kernel
theorem dX2_hearClaims_52 : decode cX2_hearClaims 52 = .ok (.goto (-42), 3) := by decide +kernel
theorem dX2_hearClaims_55 : decode cX2_hearClaims 55 = .ok (.iload_n 3, 1) := by decide +kernel
theorem dX2_hearClaims_56 : decode cX2_hearClaims 56 = .ok (.ireturn, 1) := by decide +kernel
theorem dX2_tick_0 : decode cX2_tick 0 = .ok (.aload_n 0, 1) := by decide +kernel
theorem dX2_tick_1 : decode cX2_tick 1 = .ok (.dup, 1) := by decide +kernel
theorem dX2_tick_2 : decode cX2_tick 2 = .ok (.getfield 9, 3) := by decide +kernel
theorem dX2_tick_5 : decode cX2_tick 5 = .ok (.iconst 1, 1) := by decide +kernel
theorem dX2_tick_6 : decode cX2_tick 6 = .ok (.iadd, 1) := by decide +kernel
theorem dX2_tick_7 : decode cX2_tick 7 = .ok (.putfield 9, 3) := by decide +kernel
theorem dX2_tick_10 : decode cX2_tick 10 = .ok (.iconst 0, 1) := by decide +kernel
theorem dX2_tick_11 : decode cX2_tick 11 = .ok (.istore_n 2, 1) := by decide +kernel
theorem dX2_tick_12 : decode cX2_tick 12 = .ok (.iload_n 2, 1) := by decide +kernel
theorem dX2_tick_13 : decode cX2_tick 13 = .ok (.aload_n 1, 1) := by decide +kernel
theorem dX2_tick_14 : decode cX2_tick 14 = .ok (.getfield 145, 3) := by decide +kernel
theorem dX2_tick_17 : decode cX2_tick 17 = .ok (.if_icmp .ge 99, 3) := by decide +kernel
theorem dX2_tick_20 : decode cX2_tick 20 = .ok (.aload_n 0, 1) := by decide +kernel
theorem dX2_tick_21 : decode cX2_tick 21 = .ok (.getfield 52, 3) := by decide +kernel
theorem dX2_tick_24 : decode cX2_tick 24 = .ok (.iload_n 2, 1) := by decide +kernel
theorem dX2_tick_25 : decode cX2_tick 25 = .ok (.iconst 2, 1) := by decide +kernel
theorem dX2_tick_26 : decode cX2_tick 26 = .ok (.invokevirtual 100, 3) := by decide +kernel
theorem dX2_tick_29 : decode cX2_tick 29 = .ok (.ifCond .le 28, 3) := by decide +kernel
theorem dX2_tick_32 : decode cX2_tick 32 = .ok (.aload_n 0, 1) := by decide +kernel
theorem dX2_tick_33 : decode cX2_tick 33 = .ok (.getfield 52, 3) := by decide +kernel
theorem dX2_tick_36 : decode cX2_tick 36 = .ok (.iload_n 2, 1) := by decide +kernel
theorem dX2_tick_37 : decode cX2_tick 37 = .ok (.iconst 2, 1) := by decide +kernel
theorem dX2_tick_38 : decode cX2_tick 38 = .ok (.iconst (-1), 1) := by decide +kernel
theorem dX2_tick_39 : decode cX2_tick 39 = .ok (.invokevirtual 97, 3) := by decide +kernel
theorem dX2_tick_42 : decode cX2_tick 42 = .ok (.aload_n 0, 1) := by decide +kernel
theorem dX2_tick_43 : decode cX2_tick 43 = .ok (.getfield 52, 3) := by decide +kernel
theorem dX2_tick_46 : decode cX2_tick 46 = .ok (.iload_n 2, 1) := by decide +kernel
theorem dX2_tick_47 : decode cX2_tick 47 = .ok (.iconst 4, 1) := by decide +kernel
theorem dX2_tick_48 : decode cX2_tick 48 = .ok (.iconst 1, 1) := by decide +kernel
theorem dX2_tick_49 : decode cX2_tick 49 = .ok (.invokevirtual 97, 3) := by decide +kernel
theorem dX2_tick_52 : decode cX2_tick 52 = .ok (.aload_n 0, 1) := by decide +kernel
theorem dX2_tick_53 : decode cX2_tick 53 = .ok (.iload_n 2, 1) := by decide +kernel
theorem dX2_tick_54 : decode cX2_tick 54 = .ok (.invokevirtual 149, 3) := by decide +kernel
theorem dX2_tick_57 : decode cX2_tick 57 = .ok (.aload_n 0, 1) := by decide +kernel
theorem dX2_tick_58 : decode cX2_tick 58 = .ok (.getfield 52, 3) := by decide +kernel
theorem dX2_tick_61 : decode cX2_tick 61 = .ok (.iload_n 2, 1) := by decide +kernel
theorem dX2_tick_62 : decode cX2_tick 62 = .ok (.iconst 1, 1) := by decide +kernel
theorem dX2_tick_63 : decode cX2_tick 63 = .ok (.invokevirtual 100, 3) := by decide +kernel
theorem dX2_tick_66 : decode cX2_tick 66 = .ok (.ifCond .le 13, 3) := by decide +kernel
theorem dX2_tick_69 : decode cX2_tick 69 = .ok (.aload_n 0, 1) := by decide +kernel
theorem dX2_tick_70 : decode cX2_tick 70 = .ok (.getfield 52, 3) := by decide +kernel
theorem dX2_tick_73 : decode cX2_tick 73 = .ok (.iload_n 2, 1) := by decide +kernel
theorem dX2_tick_74 : decode cX2_tick 74 = .ok (.iconst 1, 1) := by decide +kernel
theorem dX2_tick_75 : decode cX2_tick 75 = .ok (.iconst (-1), 1) := by decide +kernel
theorem dX2_tick_76 : decode cX2_tick 76 = .ok (.invokevirtual 97, 3) := by decide +kernel
theorem dX2_tick_79 : decode cX2_tick 79 = .ok (.aload_n 1, 1) := by decide +kernel
theorem dX2_tick_80 : decode cX2_tick 80 = .ok (.aload_n 0, 1) := by decide +kernel
theorem dX2_tick_81 : decode cX2_tick 81 = .ok (.getfield 9, 3) := by decide +kernel
theorem dX2_tick_84 : decode cX2_tick 84 = .ok (.invokevirtual 152, 3) := by decide +kernel
theorem dX2_tick_87 : decode cX2_tick 87 = .ok (.ifCond .eq 23, 3) := by decide +kernel
theorem dX2_tick_90 : decode cX2_tick 90 = .ok (.aload_n 0, 1) := by decide +kernel
theorem dX2_tick_91 : decode cX2_tick 91 = .ok (.getfield 52, 3) := by decide +kernel
theorem dX2_tick_94 : decode cX2_tick 94 = .ok (.iload_n 2, 1) := by decide +kernel
theorem dX2_tick_95 : decode cX2_tick 95 = .ok (.iconst 0, 1) := by decide +kernel
theorem dX2_tick_96 : decode cX2_tick 96 = .ok (.aload_n 0, 1) := by decide +kernel
theorem dX2_tick_97 : decode cX2_tick 97 = .ok (.getfield 52, 3) := by decide +kernel
theorem dX2_tick_100 : decode cX2_tick 100 = .ok (.iload_n 2, 1) := by decide +kernel
theorem dX2_tick_101 : decode cX2_tick 101 = .ok (.iconst 0, 1) := by decide +kernel
theorem dX2_tick_102 : decode cX2_tick 102 = .ok (.invokevirtual 100, 3) := by decide +kernel
theorem dX2_tick_105 : decode cX2_tick 105 = .ok (.iconst 2, 1) := by decide +kernel
theorem dX2_tick_106 : decode cX2_tick 106 = .ok (.idiv, 1) := by decide +kernel
theorem dX2_tick_107 : decode cX2_tick 107 = .ok (.invokevirtual 93, 3) := by decide +kernel
theorem dX2_tick_110 : decode cX2_tick 110 = .ok (.iinc 2 1, 3) := by decide +kernel
theorem dX2_tick_113 : decode cX2_tick 113 = .ok (.goto (-101), 3) := by decide +kernel
theorem dX2_tick_116 : decode cX2_tick 116 = .ok (.aload_n 1, 1) := by decide +kernel
theorem dX2_tick_117 : decode cX2_tick 117 = .ok (.aload_n 0, 1) := by decide +kernel
theorem dX2_tick_118 : decode cX2_tick 118 = .ok (.getfield 9, 3) := by decide +kernel
theorem dX2_tick_121 : decode cX2_tick 121 = .ok (.invokevirtual 155, 3) := by decide +kernel
theorem dX2_tick_124 : decode cX2_tick 124 = .ok (.ifCond .ne 5, 3) := by decide +kernel
theorem dX2_tick_127 : decode cX2_tick 127 = .ok (.iconst 0, 1) := by decide +kernel
theorem dX2_tick_128 : decode cX2_tick 128 = .ok (.ireturn, 1) := by decide +kernel
theorem dX2_tick_129 : decode cX2_tick 129 = .ok (.aload_n 0, 1) := by decide +kernel
theorem dX2_tick_130 : decode cX2_tick 130 = .ok (.aload_n 1, 1) := by decide +kernel
theorem dX2_tick_131 : decode cX2_tick 131 = .ok (.invokevirtual 158, 3) := by decide +kernel
theorem dX2_tick_134 : decode cX2_tick 134 = .ok (.aload_n 0, 1) := by decide +kernel
theorem dX2_tick_135 : decode cX2_tick 135 = .ok (.dup, 1) := by decide +kernel
theorem dX2_tick_136 : decode cX2_tick 136 = .ok (.getfield 30, 3) := by decide +kernel
theorem dX2_tick_139 : decode cX2_tick 139 = .ok (.iconst 1, 1) := by decide +kernel
theorem dX2_tick_140 : decode cX2_tick 140 = .ok (.iadd, 1) := by decide +kernel
theorem dX2_tick_141 : decode cX2_tick 141 = .ok (.putfield 30, 3) := by decide +kernel
theorem dX2_tick_144 : decode cX2_tick 144 = .ok (.aload_n 0, 1) := by decide +kernel
theorem dX2_tick_145 : decode cX2_tick 145 = .ok (.aload_n 0, 1) := by decide +kernel
theorem dX2_tick_146 : decode cX2_tick 146 = .ok (.getfield 9, 3) := by decide +kernel
theorem dX2_tick_149 : decode cX2_tick 149 = .ok (.putfield 33, 3) := by decide +kernel
theorem dX2_tick_152 : decode cX2_tick 152 = .ok (.aload_n 0, 1) := by decide +kernel
theorem dX2_tick_153 : decode cX2_tick 153 = .ok (.aload_n 1, 1) := by decide +kernel
theorem dX2_tick_154 : decode cX2_tick 154 = .ok (.invokevirtual 162, 3) := by decide +kernel
theorem dX2_tick_157 : decode cX2_tick 157 = .ok (.ireturn, 1) := by decide +kernel
def f_X2_addClaim (n : Nat) (th_0 : OS) (v1_0 : Int32) (v2_0 : Int32) (v3_0 : Int32) : Option (OS × Int32) :=
  Let (th_0.1 4) (fun v4_1 : Int32 =>
  Let (sI th_0 4 ((th_0.1 4) + (1 : Int32))) (fun th_2 : OS =>
  bnd (f_X6_set n (7 : Int32) 420 (th_2.2.1 13) v4_1 (0 : Int32) v1_0) (fun (y_3 : Nat → Int32) =>
  Let (sA th_2 13 y_3) (fun th_4 : OS =>
  bnd (f_X6_set n (7 : Int32) 420 (th_4.2.1 13) v4_1 (1 : Int32) v2_0) (fun (y_5 : Nat → Int32) =>
  Let (sA th_4 13 y_5) (fun th_6 : OS =>
  bnd (f_X6_set n (7 : Int32) 420 (th_6.2.1 13) v4_1 (2 : Int32) v3_0) (fun (y_7 : Nat → Int32) =>
  Let (sA th_6 13 y_7) (fun th_8 : OS =>
  bnd (f_X6_set n (7 : Int32) 420 (th_8.2.1 13) v4_1 (3 : Int32) (0 : Int32)) (fun (y_9 : Nat → Int32) =>
  Let (sA th_8 13 y_9) (fun th_10 : OS =>
  bnd (f_X6_set n (7 : Int32) 420 (th_10.2.1 13) v4_1 (4 : Int32) (0 : Int32)) (fun (y_11 : Nat → Int32) =>
  Let (sA th_10 13 y_11) (fun th_12 : OS =>
  bnd (f_X6_set n (7 : Int32) 420 (th_12.2.1 13) v4_1 (5 : Int32) (-1 : Int32)) (fun (y_13 : Nat → Int32) =>
  Let (sA th_12 13 y_13) (fun th_14 : OS =>
  bnd (f_X6_set n (7 : Int32) 420 (th_14.2.1 13) v4_1 (6 : Int32) (th_14.1 0)) (fun (y_15 : Nat → Int32) =>
  Let (sA th_14 13 y_15) (fun th_16 : OS =>
  some (th_16, v4_1)))))))))))))))))
set_option maxHeartbeats 4000000 in
set_option maxRecDepth 100000 in
theorem c_X2_addClaim (n : Nat) (l : Launch) (k : KT) (a_th : Nat → Nat) (th_0 : OS) (v1_0 : Int32) (v2_0 : Int32) (v3_0 : Int32) (res : (OS × Int32)) (hf : f_X2_addClaim n th_0 v1_0 v2_0 v3_0 = some res) : CG l k yX2_addClaim cX2_addClaim 5 (some .int) 1 0 0 24 [.ref (a_th 0), .int v1_0, .int v2_0, .int v3_0] (wCourt k a_th th_0) (Qi k (fun u : OS => wCourt k a_th u) (fun (r : Int32) (u : OS) => res = (u, r))) := by
  refine CG.ofI (by decide) (Nat.le_of_ble_eq_true rfl) (fun p e s m args below meth c A Q E hnm hW hA hret ls hl => ?_)
  have hl : lv_has ls 5 [(0, .ref (a_th 0)), (1, .int v1_0), (2, .int v2_0), (3, .int v3_0)] := hl
  unfold f_X2_addClaim at hf
  refine k_aload_n E hl 0 dX2_addClaim_0 rfl ?_
  refine gf_X2_24 E hW 0 rfl rfl dX2_addClaim_1 ?_
  obtain ⟨v4_1, ev4_1, hf⟩ := oL hf
  refine k_istore (lv' := [(4, .int v4_1), (0, .ref (a_th 0)), (1, .int v1_0), (2, .int v2_0), (3, .int v3_0)]) E ev4_1 hl dX2_addClaim_4 (by decide) rfl (fun ls hl => ?_)
  refine k_aload_n E hl 1 dX2_addClaim_6 rfl ?_
  refine lv_dup E.hx E.hb dX2_addClaim_7 rfl ?_
  refine gf_X2_24 E hW 0 rfl rfl dX2_addClaim_8 ?_
  refine lv_iconst (v := (1 : Int32)) E.hx E.hb dX2_addClaim_11 ic_1 ?_
  refine lv_iadd E.hx E.hb dX2_addClaim_12 ?_
  obtain ⟨th_2, eth_2, hf⟩ := oL hf
  refine pf_X2_24 (ws2 := wCourt k a_th th_2) E hW 0 rfl rfl rfl (Nat.le_of_ble_eq_true rfl) dX2_addClaim_13 (by rw [eth_2]; rfl) (fun H locs hW => ?_)
  refine k_aload_n E hl 1 dX2_addClaim_16 rfl ?_
  refine gf_X2_59 E hW 0 rfl rfl dX2_addClaim_17 ?_
  refine k_iload E hl 0 dX2_addClaim_20 rfl ?_
  refine lv_iconst (v := (0 : Int32)) E.hx E.hb dX2_addClaim_22 ic_0 ?_
  refine k_iload_n E hl 2 dX2_addClaim_23 rfl ?_
  obtain ⟨y_3, hg, hf⟩ := ob hf
  obtain ⟨th_4, eth_4, hf⟩ := oL hf
  refine k_callVv (As := [.int v4_1, .int (0 : Int32), .int v1_0]) (rest := []) (ws2 := fun u => wCourt k a_th (sA th_2 13 (u))) (c_X6_set n l k (fun j => a_th (7 + j)) (7 : Int32) 420 (th_2.2.1 13) v4_1 (0 : Int32) v1_0 y_3 hg) E vl_X2_93 dX2_addClaim_24 rfl [7, 8] 7 7 hW hA hl rfl rfl rfl rfl ⟨by decide, by decide⟩ ⟨by decide, by decide⟩ (Nat.le_of_ble_eq_true rfl) rfl (fun _ => rfl) (fun _ => rfl) (fun u H locs hp hW => ?_)
  cases hp
  have hW : WD k A s.heap (wCourt k a_th th_4) H locs := by rw [eth_4]; exact hW
  refine k_aload_n E hl 1 dX2_addClaim_27 rfl ?_
  refine gf_X2_59 E hW 0 rfl rfl dX2_addClaim_28 ?_
  refine k_iload E hl 0 dX2_addClaim_31 rfl ?_
  refine lv_iconst (v := (1 : Int32)) E.hx E.hb dX2_addClaim_33 ic_1 ?_
  refine k_iload_n E hl 3 dX2_addClaim_34 rfl ?_
  obtain ⟨y_5, hg, hf⟩ := ob hf
  obtain ⟨th_6, eth_6, hf⟩ := oL hf
  refine k_callVv (As := [.int v4_1, .int (1 : Int32), .int v2_0]) (rest := []) (ws2 := fun u => wCourt k a_th (sA th_4 13 (u))) (c_X6_set n l k (fun j => a_th (7 + j)) (7 : Int32) 420 (th_4.2.1 13) v4_1 (1 : Int32) v2_0 y_5 hg) E vl_X2_93 dX2_addClaim_35 rfl [7, 8] 7 7 hW hA hl rfl rfl rfl rfl ⟨by decide, by decide⟩ ⟨by decide, by decide⟩ (Nat.le_of_ble_eq_true rfl) rfl (fun _ => rfl) (fun _ => rfl) (fun u H locs hp hW => ?_)
  cases hp
  have hW : WD k A s.heap (wCourt k a_th th_6) H locs := by rw [eth_6]; exact hW
  refine k_aload_n E hl 1 dX2_addClaim_38 rfl ?_
  refine gf_X2_59 E hW 0 rfl rfl dX2_addClaim_39 ?_
  refine k_iload E hl 0 dX2_addClaim_42 rfl ?_
  refine lv_iconst (v := (2 : Int32)) E.hx E.hb dX2_addClaim_44 ic_2 ?_
  refine k_iload_n E hl 4 dX2_addClaim_45 rfl ?_
  obtain ⟨y_7, hg, hf⟩ := ob hf
  obtain ⟨th_8, eth_8, hf⟩ := oL hf
  refine k_callVv (As := [.int v4_1, .int (2 : Int32), .int v3_0]) (rest := []) (ws2 := fun u => wCourt k a_th (sA th_6 13 (u))) (c_X6_set n l k (fun j => a_th (7 + j)) (7 : Int32) 420 (th_6.2.1 13) v4_1 (2 : Int32) v3_0 y_7 hg) E vl_X2_93 dX2_addClaim_46 rfl [7, 8] 7 7 hW hA hl rfl rfl rfl rfl ⟨by decide, by decide⟩ ⟨by decide, by decide⟩ (Nat.le_of_ble_eq_true rfl) rfl (fun _ => rfl) (fun _ => rfl) (fun u H locs hp hW => ?_)
  cases hp
  have hW : WD k A s.heap (wCourt k a_th th_8) H locs := by rw [eth_8]; exact hW
  refine k_aload_n E hl 1 dX2_addClaim_49 rfl ?_
  refine gf_X2_59 E hW 0 rfl rfl dX2_addClaim_50 ?_
  refine k_iload E hl 0 dX2_addClaim_53 rfl ?_
  refine lv_iconst (v := (3 : Int32)) E.hx E.hb dX2_addClaim_55 ic_3 ?_
  refine lv_iconst (v := (0 : Int32)) E.hx E.hb dX2_addClaim_56 ic_0 ?_
  obtain ⟨y_9, hg, hf⟩ := ob hf
  obtain ⟨th_10, eth_10, hf⟩ := oL hf
  refine k_callVv (As := [.int v4_1, .int (3 : Int32), .int (0 : Int32)]) (rest := []) (ws2 := fun u => wCourt k a_th (sA th_8 13 (u))) (c_X6_set n l k (fun j => a_th (7 + j)) (7 : Int32) 420 (th_8.2.1 13) v4_1 (3 : Int32) (0 : Int32) y_9 hg) E vl_X2_93 dX2_addClaim_57 rfl [7, 8] 7 7 hW hA hl rfl rfl rfl rfl ⟨by decide, by decide⟩ ⟨by decide, by decide⟩ (Nat.le_of_ble_eq_true rfl) rfl (fun _ => rfl) (fun _ => rfl) (fun u H locs hp hW => ?_)
  cases hp
  have hW : WD k A s.heap (wCourt k a_th th_10) H locs := by rw [eth_10]; exact hW
  refine k_aload_n E hl 1 dX2_addClaim_60 rfl ?_
  refine gf_X2_59 E hW 0 rfl rfl dX2_addClaim_61 ?_
  refine k_iload E hl 0 dX2_addClaim_64 rfl ?_
  refine lv_iconst (v := (4 : Int32)) E.hx E.hb dX2_addClaim_66 ic_4 ?_
  refine lv_iconst (v := (0 : Int32)) E.hx E.hb dX2_addClaim_67 ic_0 ?_
  obtain ⟨y_11, hg, hf⟩ := ob hf
  obtain ⟨th_12, eth_12, hf⟩ := oL hf
  refine k_callVv (As := [.int v4_1, .int (4 : Int32), .int (0 : Int32)]) (rest := []) (ws2 := fun u => wCourt k a_th (sA th_10 13 (u))) (c_X6_set n l k (fun j => a_th (7 + j)) (7 : Int32) 420 (th_10.2.1 13) v4_1 (4 : Int32) (0 : Int32) y_11 hg) E vl_X2_93 dX2_addClaim_68 rfl [7, 8] 7 7 hW hA hl rfl rfl rfl rfl ⟨by decide, by decide⟩ ⟨by decide, by decide⟩ (Nat.le_of_ble_eq_true rfl) rfl (fun _ => rfl) (fun _ => rfl) (fun u H locs hp hW => ?_)
  cases hp
  have hW : WD k A s.heap (wCourt k a_th th_12) H locs := by rw [eth_12]; exact hW
  refine k_aload_n E hl 1 dX2_addClaim_71 rfl ?_
  refine gf_X2_59 E hW 0 rfl rfl dX2_addClaim_72 ?_
  refine k_iload E hl 0 dX2_addClaim_75 rfl ?_
  refine lv_iconst (v := (5 : Int32)) E.hx E.hb dX2_addClaim_77 ic_5 ?_
  refine lv_iconst (v := (-1 : Int32)) E.hx E.hb dX2_addClaim_78 ic_m1 ?_
  obtain ⟨y_13, hg, hf⟩ := ob hf
  obtain ⟨th_14, eth_14, hf⟩ := oL hf
  refine k_callVv (As := [.int v4_1, .int (5 : Int32), .int (-1 : Int32)]) (rest := []) (ws2 := fun u => wCourt k a_th (sA th_12 13 (u))) (c_X6_set n l k (fun j => a_th (7 + j)) (7 : Int32) 420 (th_12.2.1 13) v4_1 (5 : Int32) (-1 : Int32) y_13 hg) E vl_X2_93 dX2_addClaim_79 rfl [7, 8] 7 7 hW hA hl rfl rfl rfl rfl ⟨by decide, by decide⟩ ⟨by decide, by decide⟩ (Nat.le_of_ble_eq_true rfl) rfl (fun _ => rfl) (fun _ => rfl) (fun u H locs hp hW => ?_)
  cases hp
  have hW : WD k A s.heap (wCourt k a_th th_14) H locs := by rw [eth_14]; exact hW
  refine k_aload_n E hl 1 dX2_addClaim_82 rfl ?_
  refine gf_X2_59 E hW 0 rfl rfl dX2_addClaim_83 ?_
  refine k_iload E hl 0 dX2_addClaim_86 rfl ?_
  refine lv_bipush (v := (6 : Int32)) E.hx E.hb dX2_addClaim_88 bp_6 ?_
  refine k_aload_n E hl 1 dX2_addClaim_90 rfl ?_
  refine gf_X2_9 E hW 0 rfl rfl dX2_addClaim_91 ?_
  obtain ⟨y_15, hg, hf⟩ := ob hf
  obtain ⟨th_16, eth_16, hf⟩ := oL hf
  refine k_callVv (As := [.int v4_1, .int (6 : Int32), .int (th_14.1 0)]) (rest := []) (ws2 := fun u => wCourt k a_th (sA th_14 13 (u))) (c_X6_set n l k (fun j => a_th (7 + j)) (7 : Int32) 420 (th_14.2.1 13) v4_1 (6 : Int32) (th_14.1 0) y_15 hg) E vl_X2_93 dX2_addClaim_94 rfl [7, 8] 7 7 hW hA hl rfl rfl rfl rfl ⟨by decide, by decide⟩ ⟨by decide, by decide⟩ (Nat.le_of_ble_eq_true rfl) rfl (fun _ => rfl) (fun _ => rfl) (fun u H locs hp hW => ?_)
  cases hp
  have hW : WD k A s.heap (wCourt k a_th th_16) H locs := by rw [eth_16]; exact hW
  refine k_iload E hl 0 dX2_addClaim_97 rfl ?_
  exact hret _ th_16 _ _ _ _ _ _ hW (Option.some.inj hf).symm rfl (by decide) (by decide) dX2_addClaim_99
def f_X2_waits (n : Nat) (th_0 : OS) (v1_0 : Int32) : Option (Int32) :=
  bnd (f_X6_get n (7 : Int32) 420 (th_0.2.1 13) v1_0 (3 : Int32)) (fun (r_1 : Int32) =>
  if r_1 = 0 then (
  some (1 : Int32)) else (
  some (0 : Int32)))
set_option maxHeartbeats 4000000 in
set_option maxRecDepth 100000 in
theorem c_X2_waits (n : Nat) (l : Launch) (k : KT) (a_th : Nat → Nat) (th_0 : OS) (v1_0 : Int32) (res : (Int32)) (hf : f_X2_waits n th_0 v1_0 = some res) : CG l k yX2_waits cX2_waits 2 (some .boolean) 1 0 0 23 [.ref (a_th 0), .int v1_0] (wCourt k a_th th_0) (Qi k (fun u : Unit => wCourt k a_th th_0) (fun (r : Int32) (u : Unit) => res = r)) := by
  refine CG.ofI (by decide) (Nat.le_of_ble_eq_true rfl) (fun p e s m args below meth c A Q E hnm hW hA hret ls hl => ?_)
  have hl : lv_has ls 2 [(0, .ref (a_th 0)), (1, .int v1_0)] := hl
  unfold f_X2_waits at hf
  refine k_aload_n E hl 0 dX2_waits_0 rfl ?_
  refine gf_X2_59 E hW 0 rfl rfl dX2_waits_1 ?_
  refine k_iload_n E hl 1 dX2_waits_4 rfl ?_
  refine lv_iconst (v := (3 : Int32)) E.hx E.hb dX2_waits_5 ic_3 ?_
  obtain ⟨r_1, hg, hf⟩ := ob hf
  refine k_callVi (As := [.int v1_0, .int (3 : Int32)]) (rest := []) (ws2 := fun u => wCourt k a_th th_0) (c_X6_get n l k (fun j => a_th (7 + j)) (7 : Int32) 420 (th_0.2.1 13) v1_0 (3 : Int32) r_1 hg) E vl_X2_100 dX2_waits_6 rfl [7, 8] 7 7 hW hA hl rfl rfl rfl rfl ⟨by decide, by decide⟩ ⟨by decide, by decide⟩ (Nat.le_of_ble_eq_true rfl) rfl (fun _ => rfl) (fun _ => rfl) (fun r u H locs hp hW => ?_)
  cases hp
  have hW : WD k A s.heap (wCourt k a_th th_0) H locs := hW
  refine lv_if_ne (tgt := 16) E.hx E.hb dX2_waits_9 (by decide) (fun hc => ?_) (fun hc => ?_)
  · have hf := oF hc hf
    refine lv_iconst (v := (0 : Int32)) E.hx E.hb dX2_waits_16 ic_0 ?_
    exact hret _ () _ _ _ _ _ _ hW (Option.some.inj hf).symm (by decide) (by decide) (by decide) dX2_waits_17
  · have hf := oT hc hf
    refine lv_iconst (v := (1 : Int32)) E.hx E.hb dX2_waits_12 ic_1 ?_
    refine lv_goto (tgt := 17) E.hx E.hb dX2_waits_13 (by decide) ?_
    exact hret _ () _ _ _ _ _ _ hW (Option.some.inj hf).symm (by decide) (by decide) (by decide) dX2_waits_17
def s_X2_claimsThat_5 (n : Nat) (th_0 : OS) (w1_j5 : Int32) (w2_j5 : Int32) (rc_5 : (Int32) → (Int32) → Option (Int32)) (w3_j5 : Int32) (w4_j5 : Int32) : Option (Int32) :=
  if (th_0.1 4) ≤ w4_j5 then (
  some w3_j5) else (
  bnd (f_X6_get n (7 : Int32) 420 (th_0.2.1 13) w4_j5 (3 : Int32)) (fun (r_1 : Int32) =>
  if r_1 = w2_j5 then (
  if w1_j5 = (-1 : Int32) then (
  Let (w3_j5 + (1 : Int32)) (fun v3_3 : Int32 =>
  Let (w4_j5 + (1 : Int32)) (fun v4_4 : Int32 =>
  rc_5 v3_3 v4_4))) else (
  bnd (f_X6_get n (7 : Int32) 420 (th_0.2.1 13) w4_j5 (0 : Int32)) (fun (r_5 : Int32) =>
  if r_5 = w1_j5 then (
  Let (w3_j5 + (1 : Int32)) (fun v3_7 : Int32 =>
  Let (w4_j5 + (1 : Int32)) (fun v4_8 : Int32 =>
  rc_5 v3_7 v4_8))) else (
  Let (w4_j5 + (1 : Int32)) (fun v4_6 : Int32 =>
  rc_5 w3_j5 v4_6))))) else (
  Let (w4_j5 + (1 : Int32)) (fun v4_2 : Int32 =>
  rc_5 w3_j5 v4_2))))
def l_X2_claimsThat_5 (n : Nat) (th_0 : OS) (w1_j5 : Int32) (w2_j5 : Int32) : Nat → (Int32) → (Int32) → Option (Int32)
  | 0 => fun _ _ => none
  | N + 1 => s_X2_claimsThat_5 n th_0 w1_j5 w2_j5 (l_X2_claimsThat_5 n th_0 w1_j5 w2_j5 N)
def f_X2_claimsThat (n : Nat) (th_0 : OS) (v1_0 : Int32) (v2_0 : Int32) : Option (Int32) :=
  l_X2_claimsThat_5 n th_0 v1_0 v2_0 n (0 : Int32) (0 : Int32)
set_option maxHeartbeats 4000000 in
set_option maxRecDepth 100000 in
theorem c_X2_claimsThat (n : Nat) (l : Launch) (k : KT) (a_th : Nat → Nat) (th_0 : OS) (v1_0 : Int32) (v2_0 : Int32) (res : (Int32)) (hf : f_X2_claimsThat n th_0 v1_0 v2_0 = some res) : CG l k yX2_claimsThat cX2_claimsThat 5 (some .int) 1 0 0 23 [.ref (a_th 0), .int v1_0, .int v2_0] (wCourt k a_th th_0) (Qi k (fun u : Unit => wCourt k a_th th_0) (fun (r : Int32) (u : Unit) => res = r)) := by
  refine CG.ofI (by decide) (Nat.le_of_ble_eq_true rfl) (fun p e s m args below meth c A Q E hnm hW hA hret ls hl => ?_)
  have hl : lv_has ls 5 [(0, .ref (a_th 0)), (1, .int v1_0), (2, .int v2_0)] := hl
  unfold f_X2_claimsThat at hf
  refine lv_iconst (v := (0 : Int32)) E.hx E.hb dX2_claimsThat_0 ic_0 ?_
  refine k_istore_n (lv' := [(3, .int (0 : Int32)), (0, .ref (a_th 0)), (1, .int v1_0), (2, .int v2_0)]) E rfl hl dX2_claimsThat_1 rfl (by decide) rfl (fun ls hl => ?_)
  refine lv_iconst (v := (0 : Int32)) E.hx E.hb dX2_claimsThat_2 ic_0 ?_
  refine k_istore (lv' := [(4, .int (0 : Int32)), (3, .int (0 : Int32)), (0, .ref (a_th 0)), (1, .int v1_0), (2, .int v2_0)]) E rfl hl dX2_claimsThat_3 (by decide) rfl (fun ls hl => ?_)
  have L_5 : ∀ (N_5 : Nat) (w3_j5 : Int32) (w4_j5 : Int32) (H : Heap) (locs : List Loc) (ls : Array Slot) (hW : WD k A s.heap (wCourt k a_th th_0) H locs) (hl : lv_has ls 5 [(0, .ref (a_th 0)), (1, .int v1_0), (2, .int v2_0), (3, .int w3_j5), (4, .int w4_j5)]) (hf : l_X2_claimsThat_5 n th_0 v1_0 v2_0 N_5 w3_j5 w4_j5 = some res), W p l e { frames := 1, cells := 0, slots := 0, locals := 23 } s m args below meth c H locs 0 0 Q (F0 m 5 ls []) := by
    intro N_5
    induction N_5 with
    | zero => intro w3_j5 w4_j5 H locs ls hW hl hf; exact o0 hf
    | succ N_5 ih_5 =>
      intro w3_j5 w4_j5 H locs ls hW hl hf
      have hf : s_X2_claimsThat_5 n th_0 v1_0 v2_0 (l_X2_claimsThat_5 n th_0 v1_0 v2_0 N_5) w3_j5 w4_j5 = some res := hf
      unfold s_X2_claimsThat_5 at hf
      refine k_iload E hl 4 dX2_claimsThat_5 rfl ?_
      refine k_aload_n E hl 0 dX2_claimsThat_7 rfl ?_
      refine gf_X2_24 E hW 0 rfl rfl dX2_claimsThat_8 ?_
      refine lv_icmp_ge (tgt := 56) E.hx E.hb dX2_claimsThat_11 (by decide) (fun hc => ?_) (fun hc => ?_)
      · have hf := oT hc hf
        refine k_iload_n E hl 3 dX2_claimsThat_56 rfl ?_
        exact hret _ () _ _ _ _ _ _ hW (Option.some.inj hf).symm rfl (by decide) (by decide) dX2_claimsThat_57
      · have hf := oF hc hf
        refine k_aload_n E hl 0 dX2_claimsThat_14 rfl ?_
        refine gf_X2_59 E hW 0 rfl rfl dX2_claimsThat_15 ?_
        refine k_iload E hl 4 dX2_claimsThat_18 rfl ?_
        refine lv_iconst (v := (3 : Int32)) E.hx E.hb dX2_claimsThat_20 ic_3 ?_
        obtain ⟨r_1, hg, hf⟩ := ob hf
        refine k_callVi (As := [.int w4_j5, .int (3 : Int32)]) (rest := []) (ws2 := fun u => wCourt k a_th th_0) (c_X6_get n l k (fun j => a_th (7 + j)) (7 : Int32) 420 (th_0.2.1 13) w4_j5 (3 : Int32) r_1 hg) E vl_X2_100 dX2_claimsThat_21 rfl [7, 8] 7 7 hW hA hl rfl rfl rfl rfl ⟨by decide, by decide⟩ ⟨by decide, by decide⟩ (Nat.le_of_ble_eq_true rfl) rfl (fun _ => rfl) (fun _ => rfl) (fun r u H locs hp hW => ?_)
        cases hp
        have hW : WD k A s.heap (wCourt k a_th th_0) H locs := hW
        refine k_iload_n E hl 2 dX2_claimsThat_24 rfl ?_
        refine lv_icmp_ne (tgt := 50) E.hx E.hb dX2_claimsThat_25 (by decide) (fun hc => ?_) (fun hc => ?_)
        · have hf := oF hc hf
          obtain ⟨v4_2, ev4_2, hf⟩ := oL hf
          refine k_iinc (lv' := [(4, .int v4_2), (0, .ref (a_th 0)), (1, .int v1_0), (2, .int v2_0), (3, .int w3_j5)]) E hl 4 dX2_claimsThat_50 rfl (ev4_2.trans (congrArg (fun z => w4_j5 + z) ic_1.symm)) (by decide) rfl (fun ls hl => ?_)
          refine lv_goto (tgt := 5) E.hx E.hb dX2_claimsThat_53 (by decide) ?_
          exact ih_5 w3_j5 v4_2 _ _ _ hW (lv_sub hl [1, 2, 3, 4, 0] rfl) hf
        · have hf := oT hc hf
          refine k_iload_n E hl 1 dX2_claimsThat_28 rfl ?_
          refine lv_iconst (v := (-1 : Int32)) E.hx E.hb dX2_claimsThat_29 ic_m1 ?_
          refine lv_icmp_eq (tgt := 47) E.hx E.hb dX2_claimsThat_30 (by decide) (fun hc => ?_) (fun hc => ?_)
          · have hf := oT hc hf
            obtain ⟨v3_3, ev3_3, hf⟩ := oL hf
            refine k_iinc (lv' := [(3, .int v3_3), (0, .ref (a_th 0)), (1, .int v1_0), (2, .int v2_0), (4, .int w4_j5)]) E hl 3 dX2_claimsThat_47 rfl (ev3_3.trans (congrArg (fun z => w3_j5 + z) ic_1.symm)) (by decide) rfl (fun ls hl => ?_)
            obtain ⟨v4_4, ev4_4, hf⟩ := oL hf
            refine k_iinc (lv' := [(4, .int v4_4), (3, .int v3_3), (0, .ref (a_th 0)), (1, .int v1_0), (2, .int v2_0)]) E hl 4 dX2_claimsThat_50 rfl (ev4_4.trans (congrArg (fun z => w4_j5 + z) ic_1.symm)) (by decide) rfl (fun ls hl => ?_)
            refine lv_goto (tgt := 5) E.hx E.hb dX2_claimsThat_53 (by decide) ?_
            exact ih_5 v3_3 v4_4 _ _ _ hW (lv_sub hl [2, 3, 4, 1, 0] rfl) hf
          · have hf := oF hc hf
            refine k_aload_n E hl 0 dX2_claimsThat_33 rfl ?_
            refine gf_X2_59 E hW 0 rfl rfl dX2_claimsThat_34 ?_
            refine k_iload E hl 4 dX2_claimsThat_37 rfl ?_
            refine lv_iconst (v := (0 : Int32)) E.hx E.hb dX2_claimsThat_39 ic_0 ?_
            obtain ⟨r_5, hg, hf⟩ := ob hf
            refine k_callVi (As := [.int w4_j5, .int (0 : Int32)]) (rest := []) (ws2 := fun u => wCourt k a_th th_0) (c_X6_get n l k (fun j => a_th (7 + j)) (7 : Int32) 420 (th_0.2.1 13) w4_j5 (0 : Int32) r_5 hg) E vl_X2_100 dX2_claimsThat_40 rfl [7, 8] 7 7 hW hA hl rfl rfl rfl rfl ⟨by decide, by decide⟩ ⟨by decide, by decide⟩ (Nat.le_of_ble_eq_true rfl) rfl (fun _ => rfl) (fun _ => rfl) (fun r u H locs hp hW => ?_)
            cases hp
            have hW : WD k A s.heap (wCourt k a_th th_0) H locs := hW
            refine k_iload_n E hl 1 dX2_claimsThat_43 rfl ?_
            refine lv_icmp_ne (tgt := 50) E.hx E.hb dX2_claimsThat_44 (by decide) (fun hc => ?_) (fun hc => ?_)
            · have hf := oF hc hf
              obtain ⟨v4_6, ev4_6, hf⟩ := oL hf
              refine k_iinc (lv' := [(4, .int v4_6), (0, .ref (a_th 0)), (1, .int v1_0), (2, .int v2_0), (3, .int w3_j5)]) E hl 4 dX2_claimsThat_50 rfl (ev4_6.trans (congrArg (fun z => w4_j5 + z) ic_1.symm)) (by decide) rfl (fun ls hl => ?_)
              refine lv_goto (tgt := 5) E.hx E.hb dX2_claimsThat_53 (by decide) ?_
              exact ih_5 w3_j5 v4_6 _ _ _ hW (lv_sub hl [1, 2, 3, 4, 0] rfl) hf
            · have hf := oT hc hf
              obtain ⟨v3_7, ev3_7, hf⟩ := oL hf
              refine k_iinc (lv' := [(3, .int v3_7), (0, .ref (a_th 0)), (1, .int v1_0), (2, .int v2_0), (4, .int w4_j5)]) E hl 3 dX2_claimsThat_47 rfl (ev3_7.trans (congrArg (fun z => w3_j5 + z) ic_1.symm)) (by decide) rfl (fun ls hl => ?_)
              obtain ⟨v4_8, ev4_8, hf⟩ := oL hf
              refine k_iinc (lv' := [(4, .int v4_8), (3, .int v3_7), (0, .ref (a_th 0)), (1, .int v1_0), (2, .int v2_0)]) E hl 4 dX2_claimsThat_50 rfl (ev4_8.trans (congrArg (fun z => w4_j5 + z) ic_1.symm)) (by decide) rfl (fun ls hl => ?_)
              refine lv_goto (tgt := 5) E.hx E.hb dX2_claimsThat_53 (by decide) ?_
              exact ih_5 v3_7 v4_8 _ _ _ hW (lv_sub hl [2, 3, 4, 1, 0] rfl) hf
  exact L_5 n (0 : Int32) (0 : Int32) _ _ _ hW (lv_sub hl [2, 3, 4, 1, 0] rfl) hf
def f_X2_rankOf (n : Nat) (th_0 : OS) (v1_0 : Int32) : Option (Int32) :=
  if (th_0.1 1) = (1 : Int32) then (
  bnd (f_X6_get n (7 : Int32) 420 (th_0.2.1 13) v1_0 (1 : Int32)) (fun (r_1 : Int32) =>
  some r_1)) else (if (th_0.1 1) = (2 : Int32) then (
  bnd (f_X6_get n (7 : Int32) 420 (th_0.2.1 13) v1_0 (0 : Int32)) (fun (r_2 : Int32) =>
  bnd (f_X6_get n (5 : Int32) 40 (th_0.2.1 11) r_2 (0 : Int32)) (fun (r_3 : Int32) =>
  some r_3))) else (some (0 : Int32)))
set_option maxHeartbeats 4000000 in
set_option maxRecDepth 100000 in
theorem c_X2_rankOf (n : Nat) (l : Launch) (k : KT) (a_th : Nat → Nat) (th_0 : OS) (v1_0 : Int32) (res : (Int32)) (hf : f_X2_rankOf n th_0 v1_0 = some res) : CG l k yX2_rankOf cX2_rankOf 2 (some .int) 1 0 0 23 [.ref (a_th 0), .int v1_0] (wCourt k a_th th_0) (Qi k (fun u : Unit => wCourt k a_th th_0) (fun (r : Int32) (u : Unit) => res = r)) := by
  refine CG.ofI (by decide) (Nat.le_of_ble_eq_true rfl) (fun p e s m args below meth c A Q E hnm hW hA hret ls hl => ?_)
  have hl : lv_has ls 2 [(0, .ref (a_th 0)), (1, .int v1_0)] := hl
  unfold f_X2_rankOf at hf
  refine k_aload_n E hl 0 dX2_rankOf_0 rfl ?_
  refine gf_X2_15 E hW 0 rfl rfl dX2_rankOf_1 ?_
  by_cases hc : (th_0.1 1) = (1 : Int32)
  · have hf := oT hc hf
    refine lv_lookup (off := (28)) (tgt := 32) E.hx E.hb dX2_rankOf_4 (by decide) (by rw [hc]; rfl) (by decide) ?_
    refine k_aload_n E hl 0 dX2_rankOf_32 rfl ?_
    refine gf_X2_59 E hW 0 rfl rfl dX2_rankOf_33 ?_
    refine k_iload_n E hl 1 dX2_rankOf_36 rfl ?_
    refine lv_iconst (v := (1 : Int32)) E.hx E.hb dX2_rankOf_37 ic_1 ?_
    obtain ⟨r_1, hg, hf⟩ := ob hf
    refine k_callVi (As := [.int v1_0, .int (1 : Int32)]) (rest := []) (ws2 := fun u => wCourt k a_th th_0) (c_X6_get n l k (fun j => a_th (7 + j)) (7 : Int32) 420 (th_0.2.1 13) v1_0 (1 : Int32) r_1 hg) E vl_X2_100 dX2_rankOf_38 rfl [7, 8] 7 7 hW hA hl rfl rfl rfl rfl ⟨by decide, by decide⟩ ⟨by decide, by decide⟩ (Nat.le_of_ble_eq_true rfl) rfl (fun _ => rfl) (fun _ => rfl) (fun r u H locs hp hW => ?_)
    cases hp
    have hW : WD k A s.heap (wCourt k a_th th_0) H locs := hW
    exact hret _ () _ _ _ _ _ _ hW (Option.some.inj hf).symm rfl (by decide) (by decide) dX2_rankOf_41
  have hf := oF hc hf; have hn_1 := hc; clear hc
  by_cases hc : (th_0.1 1) = (2 : Int32)
  · have hf := oT hc hf
    refine lv_lookup (off := (38)) (tgt := 42) E.hx E.hb dX2_rankOf_4 (by decide) (by rw [hc]; rfl) (by decide) ?_
    refine k_aload_n E hl 0 dX2_rankOf_42 rfl ?_
    refine gf_X2_52 E hW 0 rfl rfl dX2_rankOf_43 ?_
    refine k_aload_n E hl 0 dX2_rankOf_46 rfl ?_
    refine gf_X2_59 E hW 0 rfl rfl dX2_rankOf_47 ?_
    refine k_iload_n E hl 1 dX2_rankOf_50 rfl ?_
    refine lv_iconst (v := (0 : Int32)) E.hx E.hb dX2_rankOf_51 ic_0 ?_
    obtain ⟨r_2, hg, hf⟩ := ob hf
    refine k_callVi (As := [.int v1_0, .int (0 : Int32)]) (rest := [.ref (a_th 3)]) (ws2 := fun u => wCourt k a_th th_0) (c_X6_get n l k (fun j => a_th (7 + j)) (7 : Int32) 420 (th_0.2.1 13) v1_0 (0 : Int32) r_2 hg) E vl_X2_100 dX2_rankOf_52 rfl [7, 8] 7 7 hW hA hl rfl rfl rfl rfl ⟨by decide, by decide⟩ ⟨by decide, by decide⟩ (Nat.le_of_ble_eq_true rfl) rfl (fun _ => rfl) (fun _ => rfl) (fun r u H locs hp hW => ?_)
    cases hp
    have hW : WD k A s.heap (wCourt k a_th th_0) H locs := hW
    refine lv_iconst (v := (0 : Int32)) E.hx E.hb dX2_rankOf_55 ic_0 ?_
    obtain ⟨r_3, hg, hf⟩ := ob hf
    refine k_callVi (As := [.int r_2, .int (0 : Int32)]) (rest := []) (ws2 := fun u => wCourt k a_th th_0) (c_X6_get n l k (fun j => a_th (3 + j)) (5 : Int32) 40 (th_0.2.1 11) r_2 (0 : Int32) r_3 hg) E vl_X2_100 dX2_rankOf_56 rfl [3, 4] 7 3 hW hA hl rfl rfl rfl rfl ⟨by decide, by decide⟩ ⟨by decide, by decide⟩ (Nat.le_of_ble_eq_true rfl) rfl (fun _ => rfl) (fun _ => rfl) (fun r u H locs hp hW => ?_)
    cases hp
    have hW : WD k A s.heap (wCourt k a_th th_0) H locs := hW
    exact hret _ () _ _ _ _ _ _ hW (Option.some.inj hf).symm rfl (by decide) (by decide) dX2_rankOf_59
  have hf := oF hc hf; have hn_2 := hc; clear hc
  have hn_1 := fun (z : ((th_0.1 1)).toInt = 1) => hn_1 (Int32.toInt_inj.mp (z.trans (show (1 : Int) = ((1 : Int32)).toInt from by decide)))
  have hn_2 := fun (z : ((th_0.1 1)).toInt = 2) => hn_2 (Int32.toInt_inj.mp (z.trans (show (2 : Int) = ((2 : Int32)).toInt from by decide)))
  refine lv_lookup (off := (56)) (tgt := 60) E.hx E.hb dX2_rankOf_4 (by decide) (by simp [Op.lookupswitch.offset, show ¬ (1 : Int) = ((th_0.1 1)).toInt from fun z => hn_1 z.symm, show ¬ (2 : Int) = ((th_0.1 1)).toInt from fun z => hn_2 z.symm]) (by decide) ?_
  refine lv_iconst (v := (0 : Int32)) E.hx E.hb dX2_rankOf_60 ic_0 ?_
  exact hret _ () _ _ _ _ _ _ hW (Option.some.inj hf).symm rfl (by decide) (by decide) dX2_rankOf_61
def j_X2_lineUp_79 (n : Nat) (rc_4 : (OS) → (Int32) → (Int32) → Option (OS × Int32)) (th_j79 : OS) (w1_j79 : Int32) (w2_j79 : Int32) (w3_j79 : Int32) : Option (OS × Int32) :=
  gI 60 w3_j79 (Let (sA th_j79 15 (upd (th_j79.2.1 15) w3_j79.toNatClampNeg w2_j79)) (fun th_4 : OS =>
  Let (w1_j79 + (1 : Int32)) (fun v1_5 : Int32 =>
  Let (w2_j79 + (1 : Int32)) (fun v2_6 : Int32 =>
  rc_4 th_4 v1_5 v2_6))))
def s_X2_lineUp_38 (n : Nat) (w1_j38 : Int32) (w2_j38 : Int32) (w4_j38 : Int32) (rc_4 : (OS) → (Int32) → (Int32) → Option (OS × Int32)) (rc_38 : (OS) → (Int32) → Option (OS × Int32)) (th_j38 : OS) (w3_j38 : Int32) : Option (OS × Int32) :=
  if w3_j38 ≤ 0 then (
  j_X2_lineUp_79 n rc_4 th_j38 w1_j38 w2_j38 w3_j38) else (
  gI 60 (w3_j38 - (1 : Int32)) (Let ((th_j38.2.1 15) (w3_j38 - (1 : Int32)).toNatClampNeg) (fun x_7 : Int32 =>
  bnd (f_X2_rankOf n th_j38 x_7) (fun (r_8 : Int32) =>
  if r_8 ≤ w4_j38 then (
  j_X2_lineUp_79 n rc_4 th_j38 w1_j38 w2_j38 w3_j38) else (
  gI 60 (w3_j38 - (1 : Int32)) (Let ((th_j38.2.1 15) (w3_j38 - (1 : Int32)).toNatClampNeg) (fun x_9 : Int32 =>
  gI 60 w3_j38 (Let (sA th_j38 15 (upd (th_j38.2.1 15) w3_j38.toNatClampNeg x_9)) (fun th_10 : OS =>
  Let (w3_j38 + (-1 : Int32)) (fun v3_11 : Int32 =>
  rc_38 th_10 v3_11))))))))))
def l_X2_lineUp_38 (n : Nat) (w1_j38 : Int32) (w2_j38 : Int32) (w4_j38 : Int32) (rc_4 : (OS) → (Int32) → (Int32) → Option (OS × Int32)) : Nat → (OS) → (Int32) → Option (OS × Int32)
  | 0 => fun _ _ => none
  | N + 1 => s_X2_lineUp_38 n w1_j38 w2_j38 w4_j38 rc_4 (l_X2_lineUp_38 n w1_j38 w2_j38 w4_j38 rc_4 N)
def s_X2_lineUp_4 (n : Nat) (rc_4 : (OS) → (Int32) → (Int32) → Option (OS × Int32)) (th_j4 : OS) (w1_j4 : Int32) (w2_j4 : Int32) : Option (OS × Int32) :=
  if (th_j4.1 4) ≤ w2_j4 then (
  some (th_j4, w1_j4)) else (
  if (60 : Int32) ≤ w1_j4 then (
  some (th_j4, w1_j4)) else (
  bnd (f_X2_waits n th_j4 w2_j4) (fun (r_1 : Int32) =>
  if r_1 = 0 then (
  Let (w2_j4 + (1 : Int32)) (fun v2_2 : Int32 =>
  rc_4 th_j4 w1_j4 v2_2)) else (
  bnd (f_X2_rankOf n th_j4 w2_j4) (fun (r_3 : Int32) =>
  l_X2_lineUp_38 n w1_j4 w2_j4 r_3 rc_4 n th_j4 w1_j4)))))
def l_X2_lineUp_4 (n : Nat) : Nat → (OS) → (Int32) → (Int32) → Option (OS × Int32)
  | 0 => fun _ _ _ => none
  | N + 1 => s_X2_lineUp_4 n (l_X2_lineUp_4 n N)
def f_X2_lineUp (n : Nat) (th_0 : OS) : Option (OS × Int32) :=
  l_X2_lineUp_4 n n th_0 (0 : Int32) (0 : Int32)
set_option maxHeartbeats 4000000 in
set_option maxRecDepth 100000 in
theorem c_X2_lineUp (n : Nat) (l : Launch) (k : KT) (a_th : Nat → Nat) (th_0 : OS) (res : (OS × Int32)) (hf : f_X2_lineUp n th_0 = some res) : CG l k yX2_lineUp cX2_lineUp 5 (some .int) 2 0 0 44 [.ref (a_th 0)] (wCourt k a_th th_0) (Qi k (fun u : OS => wCourt k a_th u) (fun (r : Int32) (u : OS) => res = (u, r))) := by
  refine CG.ofI (by decide) (Nat.le_of_ble_eq_true rfl) (fun p e s m args below meth c A Q E hnm hW hA hret ls hl => ?_)
  have hl : lv_has ls 5 [(0, .ref (a_th 0))] := hl
  unfold f_X2_lineUp at hf
  refine lv_iconst (v := (0 : Int32)) E.hx E.hb dX2_lineUp_0 ic_0 ?_
  refine k_istore_n (lv' := [(1, .int (0 : Int32)), (0, .ref (a_th 0))]) E rfl hl dX2_lineUp_1 rfl (by decide) rfl (fun ls hl => ?_)
  refine lv_iconst (v := (0 : Int32)) E.hx E.hb dX2_lineUp_2 ic_0 ?_
  refine k_istore_n (lv' := [(2, .int (0 : Int32)), (1, .int (0 : Int32)), (0, .ref (a_th 0))]) E rfl hl dX2_lineUp_3 rfl (by decide) rfl (fun ls hl => ?_)
  have L_4 : ∀ (N_4 : Nat) (th_j4 : OS) (w1_j4 : Int32) (w2_j4 : Int32) (H : Heap) (locs : List Loc) (ls : Array Slot) (hW : WD k A s.heap (wCourt k a_th th_j4) H locs) (hl : lv_has ls 5 [(0, .ref (a_th 0)), (1, .int w1_j4), (2, .int w2_j4)]) (hf : l_X2_lineUp_4 n N_4 th_j4 w1_j4 w2_j4 = some res), W p l e { frames := 2, cells := 0, slots := 0, locals := 44 } s m args below meth c H locs 0 0 Q (F0 m 4 ls []) := by
    intro N_4
    induction N_4 with
    | zero => intro th_j4 w1_j4 w2_j4 H locs ls hW hl hf; exact o0 hf
    | succ N_4 ih_4 =>
      intro th_j4 w1_j4 w2_j4 H locs ls hW hl hf
      have hf : s_X2_lineUp_4 n  (l_X2_lineUp_4 n N_4) th_j4 w1_j4 w2_j4 = some res := hf
      unfold s_X2_lineUp_4 at hf
      refine k_iload_n E hl 2 dX2_lineUp_4 rfl ?_
      refine k_aload_n E hl 0 dX2_lineUp_5 rfl ?_
      refine gf_X2_24 E hW 0 rfl rfl dX2_lineUp_6 ?_
      refine lv_icmp_ge (tgt := 95) E.hx E.hb dX2_lineUp_9 (by decide) (fun hc => ?_) (fun hc => ?_)
      · have hf := oT hc hf
        refine k_iload_n E hl 1 dX2_lineUp_95 rfl ?_
        exact hret _ th_j4 _ _ _ _ _ _ hW (Option.some.inj hf).symm rfl (by decide) (by decide) dX2_lineUp_96
      · have hf := oF hc hf
        refine k_iload_n E hl 1 dX2_lineUp_12 rfl ?_
        refine k_aload_n E hl 0 dX2_lineUp_13 rfl ?_
        refine gf_X2_65 E hW 0 rfl rfl dX2_lineUp_14 ?_
        refine k_alen (v := (60 : Int32)) E hW 11 0 rfl rfl on_60 dX2_lineUp_17 ?_
        refine lv_icmp_ge (tgt := 95) E.hx E.hb dX2_lineUp_18 (by decide) (fun hc => ?_) (fun hc => ?_)
        · have hf := oT hc hf
          refine k_iload_n E hl 1 dX2_lineUp_95 rfl ?_
          exact hret _ th_j4 _ _ _ _ _ _ hW (Option.some.inj hf).symm rfl (by decide) (by decide) dX2_lineUp_96
        · have hf := oF hc hf
          refine k_aload_n E hl 0 dX2_lineUp_21 rfl ?_
          refine k_iload_n E hl 2 dX2_lineUp_22 rfl ?_
          obtain ⟨r_1, hg, hf⟩ := ob hf
          refine k_callVi (As := [.int w2_j4]) (rest := []) (ws2 := fun u => wCourt k a_th th_j4) (c_X2_waits n l k a_th th_j4 w2_j4 r_1 hg) E vl_X2_126 dX2_lineUp_23 rfl [0, 1, 2, 3, 4, 5, 6, 7, 8, 9, 10, 11] 3 0 hW hA hl rfl rfl rfl rfl ⟨by decide, by decide⟩ ⟨by decide, by decide⟩ (Nat.le_of_ble_eq_true rfl) rfl (fun _ => rfl) (fun _ => rfl) (fun r u H locs hp hW => ?_)
          cases hp
          have hW : WD k A s.heap (wCourt k a_th th_j4) H locs := hW
          refine lv_if_eq (tgt := 89) E.hx E.hb dX2_lineUp_26 (by decide) (fun hc => ?_) (fun hc => ?_)
          · have hf := oT hc hf
            obtain ⟨v2_2, ev2_2, hf⟩ := oL hf
            refine k_iinc (lv' := [(2, .int v2_2), (0, .ref (a_th 0)), (1, .int w1_j4)]) E hl 2 dX2_lineUp_89 rfl (ev2_2.trans (congrArg (fun z => w2_j4 + z) ic_1.symm)) (by decide) rfl (fun ls hl => ?_)
            refine lv_goto (tgt := 4) E.hx E.hb dX2_lineUp_92 (by decide) ?_
            exact ih_4 th_j4 w1_j4 v2_2 _ _ _ hW (lv_sub hl [1, 2, 0] rfl) hf
          · have hf := oF hc hf
            refine k_iload_n E hl 1 dX2_lineUp_29 rfl ?_
            refine k_istore_n (lv' := [(3, .int w1_j4), (0, .ref (a_th 0)), (1, .int w1_j4), (2, .int w2_j4)]) E rfl hl dX2_lineUp_30 rfl (by decide) rfl (fun ls hl => ?_)
            refine k_aload_n E hl 1 dX2_lineUp_31 rfl ?_
            refine k_iload_n E hl 3 dX2_lineUp_32 rfl ?_
            obtain ⟨r_3, hg, hf⟩ := ob hf
            refine k_callVi (As := [.int w2_j4]) (rest := []) (ws2 := fun u => wCourt k a_th th_j4) (c_X2_rankOf n l k a_th th_j4 w2_j4 r_3 hg) E vl_X2_129 dX2_lineUp_33 rfl [0, 1, 2, 3, 4, 5, 6, 7, 8, 9, 10, 11] 3 0 hW hA hl rfl rfl rfl rfl ⟨by decide, by decide⟩ ⟨by decide, by decide⟩ (Nat.le_of_ble_eq_true rfl) rfl (fun _ => rfl) (fun _ => rfl) (fun r u H locs hp hW => ?_)
            cases hp
            have hW : WD k A s.heap (wCourt k a_th th_j4) H locs := hW
            refine k_istore (lv' := [(4, .int r_3), (3, .int w1_j4), (0, .ref (a_th 0)), (1, .int w1_j4), (2, .int w2_j4)]) E rfl hl dX2_lineUp_36 (by decide) rfl (fun ls hl => ?_)
            have L_38 : ∀ (N_38 : Nat) (th_j38 : OS) (w3_j38 : Int32) (H : Heap) (locs : List Loc) (ls : Array Slot) (hW : WD k A s.heap (wCourt k a_th th_j38) H locs) (hl : lv_has ls 5 [(0, .ref (a_th 0)), (1, .int w1_j4), (2, .int w2_j4), (3, .int w3_j38), (4, .int r_3)]) (hf : l_X2_lineUp_38 n w1_j4 w2_j4 r_3 (l_X2_lineUp_4 n N_4) N_38 th_j38 w3_j38 = some res), W p l e { frames := 2, cells := 0, slots := 0, locals := 44 } s m args below meth c H locs 0 0 Q (F0 m 38 ls []) := by
              intro N_38
              induction N_38 with
              | zero => intro th_j38 w3_j38 H locs ls hW hl hf; exact o0 hf
              | succ N_38 ih_38 =>
                intro th_j38 w3_j38 H locs ls hW hl hf
                have hf : s_X2_lineUp_38 n w1_j4 w2_j4 r_3 (l_X2_lineUp_4 n N_4) (l_X2_lineUp_38 n w1_j4 w2_j4 r_3 (l_X2_lineUp_4 n N_4) N_38) th_j38 w3_j38 = some res := hf
                unfold s_X2_lineUp_38 at hf
                refine k_iload_n E hl 3 dX2_lineUp_38 rfl ?_
                have J_79 : ∀ (th_j79 : OS) (w1_j79 : Int32) (w2_j79 : Int32) (w3_j79 : Int32) (H : Heap) (locs : List Loc) (ls : Array Slot) (hW : WD k A s.heap (wCourt k a_th th_j79) H locs) (hl : lv_has ls 5 [(0, .ref (a_th 0)), (1, .int w1_j79), (2, .int w2_j79), (3, .int w3_j79)]) (hf : j_X2_lineUp_79 n (l_X2_lineUp_4 n N_4) th_j79 w1_j79 w2_j79 w3_j79 = some res), W p l e { frames := 2, cells := 0, slots := 0, locals := 44 } s m args below meth c H locs 0 0 Q (F0 m 79 ls []) := by
                  intro th_j79 w1_j79 w2_j79 w3_j79 H locs ls hW hl hf
                  unfold j_X2_lineUp_79 at hf
                  refine k_aload_n E hl 0 dX2_lineUp_79 rfl ?_
                  refine gf_X2_65 E hW 0 rfl rfl dX2_lineUp_80 ?_
                  refine k_iload_n E hl 3 dX2_lineUp_83 rfl ?_
                  refine k_iload_n E hl 2 dX2_lineUp_84 rfl ?_
                  obtain ⟨hin, hf⟩ := oI hf
                  obtain ⟨th_4, eth_4, hf⟩ := oL hf
                  refine k_iast (ws2 := wCourt k a_th th_4) E hW 11 rfl hin dX2_lineUp_85 (by rw [eth_4]; rfl) (fun H locs hW => ?_)
                  obtain ⟨v1_5, ev1_5, hf⟩ := oL hf
                  refine k_iinc (lv' := [(1, .int v1_5), (0, .ref (a_th 0)), (2, .int w2_j79), (3, .int w3_j79)]) E hl 1 dX2_lineUp_86 rfl (ev1_5.trans (congrArg (fun z => w1_j79 + z) ic_1.symm)) (by decide) rfl (fun ls hl => ?_)
                  obtain ⟨v2_6, ev2_6, hf⟩ := oL hf
                  refine k_iinc (lv' := [(2, .int v2_6), (1, .int v1_5), (0, .ref (a_th 0)), (3, .int w3_j79)]) E hl 2 dX2_lineUp_89 rfl (ev2_6.trans (congrArg (fun z => w2_j79 + z) ic_1.symm)) (by decide) rfl (fun ls hl => ?_)
                  refine lv_goto (tgt := 4) E.hx E.hb dX2_lineUp_92 (by decide) ?_
                  exact ih_4 th_4 v1_5 v2_6 _ _ _ hW (lv_sub hl [2, 1, 0] rfl) hf
                refine lv_if_le (tgt := 79) E.hx E.hb dX2_lineUp_39 (by decide) (fun hc => ?_) (fun hc => ?_)
                · have hf := oT hc hf
                  exact J_79 th_j38 w1_j4 w2_j4 w3_j38 _ _ _ hW (lv_sub hl [0, 1, 2, 3] rfl) hf
                · have hf := oF hc hf
                  refine k_aload_n E hl 0 dX2_lineUp_42 rfl ?_
                  refine k_aload_n E hl 0 dX2_lineUp_43 rfl ?_
                  refine gf_X2_65 E hW 0 rfl rfl dX2_lineUp_44 ?_
                  refine k_iload_n E hl 3 dX2_lineUp_47 rfl ?_
                  refine lv_iconst (v := (1 : Int32)) E.hx E.hb dX2_lineUp_48 ic_1 ?_
                  refine lv_isub E.hx E.hb dX2_lineUp_49 ?_
                  obtain ⟨hin, hf⟩ := oI hf
                  obtain ⟨x_7, ex_7, hf⟩ := oL hf
                  refine k_iald E hW 11 rfl hin dX2_lineUp_50 ?_
                  refine k_topi ex_7 ?_
                  obtain ⟨r_8, hg, hf⟩ := ob hf
                  refine k_callVi (As := [.int x_7]) (rest := []) (ws2 := fun u => wCourt k a_th th_j38) (c_X2_rankOf n l k a_th th_j38 x_7 r_8 hg) E vl_X2_129 dX2_lineUp_51 rfl [0, 1, 2, 3, 4, 5, 6, 7, 8, 9, 10, 11] 3 0 hW hA hl rfl rfl rfl rfl ⟨by decide, by decide⟩ ⟨by decide, by decide⟩ (Nat.le_of_ble_eq_true rfl) rfl (fun _ => rfl) (fun _ => rfl) (fun r u H locs hp hW => ?_)
                  cases hp
                  have hW : WD k A s.heap (wCourt k a_th th_j38) H locs := hW
                  refine k_iload E hl 4 dX2_lineUp_54 rfl ?_
                  refine lv_icmp_le (tgt := 79) E.hx E.hb dX2_lineUp_56 (by decide) (fun hc => ?_) (fun hc => ?_)
                  · have hf := oT hc hf
                    exact J_79 th_j38 w1_j4 w2_j4 w3_j38 _ _ _ hW (lv_sub hl [0, 1, 2, 3] rfl) hf
                  · have hf := oF hc hf
                    refine k_aload_n E hl 0 dX2_lineUp_59 rfl ?_
                    refine gf_X2_65 E hW 0 rfl rfl dX2_lineUp_60 ?_
                    refine k_iload_n E hl 3 dX2_lineUp_63 rfl ?_
                    refine k_aload_n E hl 0 dX2_lineUp_64 rfl ?_
                    refine gf_X2_65 E hW 0 rfl rfl dX2_lineUp_65 ?_
                    refine k_iload_n E hl 3 dX2_lineUp_68 rfl ?_
                    refine lv_iconst (v := (1 : Int32)) E.hx E.hb dX2_lineUp_69 ic_1 ?_
                    refine lv_isub E.hx E.hb dX2_lineUp_70 ?_
                    obtain ⟨hin, hf⟩ := oI hf
                    obtain ⟨x_9, ex_9, hf⟩ := oL hf
                    refine k_iald E hW 11 rfl hin dX2_lineUp_71 ?_
                    refine k_topi ex_9 ?_
                    obtain ⟨hin, hf⟩ := oI hf
                    obtain ⟨th_10, eth_10, hf⟩ := oL hf
                    refine k_iast (ws2 := wCourt k a_th th_10) E hW 11 rfl hin dX2_lineUp_72 (by rw [eth_10]; rfl) (fun H locs hW => ?_)
                    obtain ⟨v3_11, ev3_11, hf⟩ := oL hf
                    refine k_iinc (lv' := [(3, .int v3_11), (0, .ref (a_th 0)), (1, .int w1_j4), (2, .int w2_j4), (4, .int r_3)]) E hl 3 dX2_lineUp_73 rfl (ev3_11.trans (congrArg (fun z => w3_j38 + z) ic_m1.symm)) (by decide) rfl (fun ls hl => ?_)
                    refine lv_goto (tgt := 38) E.hx E.hb dX2_lineUp_76 (by decide) ?_
                    exact ih_38 th_10 v3_11 _ _ _ hW (lv_sub hl [1, 2, 3, 0, 4] rfl) hf
            exact L_38 n th_j4 w1_j4 _ _ _ hW (lv_sub hl [2, 3, 4, 1, 0] rfl) hf
  exact L_4 n th_0 (0 : Int32) (0 : Int32) _ _ _ hW (lv_sub hl [2, 1, 0] rfl) hf
def f_X2_inLine (n : Nat) (th_0 : OS) (v1_0 : Int32) : Option (Int32) :=
  if v1_0 < 0 then (
  some (-1 : Int32)) else (
  if (60 : Int32) ≤ v1_0 then (
  some (-1 : Int32)) else (
  gI 60 v1_0 (Let ((th_0.2.1 15) v1_0.toNatClampNeg) (fun x_1 : Int32 =>
  some x_1))))
set_option maxHeartbeats 4000000 in
set_option maxRecDepth 100000 in
theorem c_X2_inLine (n : Nat) (l : Launch) (k : KT) (a_th : Nat → Nat) (th_0 : OS) (v1_0 : Int32) (res : (Int32)) (hf : f_X2_inLine n th_0 v1_0 = some res) : CG l k yX2_inLine cX2_inLine 2 (some .int) 0 0 0 0 [.ref (a_th 0), .int v1_0] (wCourt k a_th th_0) (Qi k (fun u : Unit => wCourt k a_th th_0) (fun (r : Int32) (u : Unit) => res = r)) := by
  refine CG.ofI (by decide) (Nat.le_of_ble_eq_true rfl) (fun p e s m args below meth c A Q E hnm hW hA hret ls hl => ?_)
  have hl : lv_has ls 2 [(0, .ref (a_th 0)), (1, .int v1_0)] := hl
  unfold f_X2_inLine at hf
  refine k_iload_n E hl 1 dX2_inLine_0 rfl ?_
  refine lv_if_lt (tgt := 22) E.hx E.hb dX2_inLine_1 (by decide) (fun hc => ?_) (fun hc => ?_)
  · have hf := oT hc hf
    refine lv_iconst (v := (-1 : Int32)) E.hx E.hb dX2_inLine_22 ic_m1 ?_
    exact hret _ () _ _ _ _ _ _ hW (Option.some.inj hf).symm rfl (by decide) (by decide) dX2_inLine_23
  · have hf := oF hc hf
    refine k_iload_n E hl 1 dX2_inLine_4 rfl ?_
    refine k_aload_n E hl 0 dX2_inLine_5 rfl ?_
    refine gf_X2_65 E hW 0 rfl rfl dX2_inLine_6 ?_
    refine k_alen (v := (60 : Int32)) E hW 11 0 rfl rfl on_60 dX2_inLine_9 ?_
    refine lv_icmp_ge (tgt := 22) E.hx E.hb dX2_inLine_10 (by decide) (fun hc => ?_) (fun hc => ?_)
    · have hf := oT hc hf
      refine lv_iconst (v := (-1 : Int32)) E.hx E.hb dX2_inLine_22 ic_m1 ?_
      exact hret _ () _ _ _ _ _ _ hW (Option.some.inj hf).symm rfl (by decide) (by decide) dX2_inLine_23
    · have hf := oF hc hf
      refine k_aload_n E hl 0 dX2_inLine_13 rfl ?_
      refine gf_X2_65 E hW 0 rfl rfl dX2_inLine_14 ?_
      refine k_iload_n E hl 1 dX2_inLine_17 rfl ?_
      obtain ⟨hin, hf⟩ := oI hf
      obtain ⟨x_1, ex_1, hf⟩ := oL hf
      refine k_iald E hW 11 rfl hin dX2_inLine_18 ?_
      refine k_topi ex_1 ?_
      refine lv_goto (tgt := 23) E.hx E.hb dX2_inLine_19 (by decide) ?_
      exact hret _ () _ _ _ _ _ _ hW (Option.some.inj hf).symm rfl (by decide) (by decide) dX2_inLine_23
def f_X2_quotientUp (n : Nat) (v0_0 : Int32) (v1_0 : Int32) : Option (Int32) :=
  if v1_0 ≤ 0 then (
  some (0 : Int32)) else (
  oN (v1_0 = 0) (
  some (((v0_0 + v1_0) - (1 : Int32)) / v1_0)))
set_option maxHeartbeats 4000000 in
set_option maxRecDepth 100000 in
theorem c_X2_quotientUp (n : Nat) (l : Launch) (k : KT)  (v0_0 : Int32) (v1_0 : Int32) (res : (Int32)) (hf : f_X2_quotientUp n v0_0 v1_0 = some res) : CG l k yX2_quotientUp cX2_quotientUp 2 (some .int) 0 0 0 0 [.int v0_0, .int v1_0] ([]) (Qi k (fun u : Unit => []) (fun (r : Int32) (u : Unit) => res = r)) := by
  refine CG.ofI (by decide) (Nat.le_of_ble_eq_true rfl) (fun p e s m args below meth c A Q E hnm hW hA hret ls hl => ?_)
  have hl : lv_has ls 2 [(0, .int v0_0), (1, .int v1_0)] := hl
  unfold f_X2_quotientUp at hf
  refine k_iload_n E hl 1 dX2_quotientUp_0 rfl ?_
  refine lv_if_le (tgt := 14) E.hx E.hb dX2_quotientUp_1 (by decide) (fun hc => ?_) (fun hc => ?_)
  · have hf := oT hc hf
    refine lv_iconst (v := (0 : Int32)) E.hx E.hb dX2_quotientUp_14 ic_0 ?_
    exact hret _ () _ _ _ _ _ _ hW (Option.some.inj hf).symm rfl (by decide) (by decide) dX2_quotientUp_15
  · have hf := oF hc hf
    refine k_iload_n E hl 0 dX2_quotientUp_4 rfl ?_
    refine k_iload_n E hl 1 dX2_quotientUp_5 rfl ?_
    refine lv_iadd E.hx E.hb dX2_quotientUp_6 ?_
    refine lv_iconst (v := (1 : Int32)) E.hx E.hb dX2_quotientUp_7 ic_1 ?_
    refine lv_isub E.hx E.hb dX2_quotientUp_8 ?_
    refine k_iload_n E hl 1 dX2_quotientUp_9 rfl ?_
    obtain ⟨hz, hf⟩ := oG hf
    refine lv_idiv E.hx E.hb dX2_quotientUp_10 hz ?_
    refine lv_goto (tgt := 15) E.hx E.hb dX2_quotientUp_11 (by decide) ?_
    exact hret _ () _ _ _ _ _ _ hW (Option.some.inj hf).symm rfl (by decide) (by decide) dX2_quotientUp_15
def f_X2_noteStalled (n : Nat) (th_0 : OS) (v1_0 : Int32) : Option (OS) :=
  Let ((th_0.1 0) >>> ((3 : Int32) &&& 31)) (fun v2_1 : Int32 =>
  if v2_1 < 0 then (
  some th_0) else (
  if (251 : Int32) ≤ v2_1 then (
  some th_0) else (
  gI 251 v2_1 (Let ((th_0.2.2.1 9) v2_1.toNatClampNeg) (fun x_2 : Int64 =>
  gI 251 v2_1 (Let (sL th_0 9 (vp_updL (th_0.2.2.1 9) v2_1.toNatClampNeg (x_2 ||| ((1 : Int64) <<< (((((th_0.1 0) &&& (7 : Int32)) * (8 : Int32)) + v1_0).toInt64 &&& 63))))) (fun th_3 : OS =>
  some th_3)))))))
set_option maxHeartbeats 4000000 in
set_option maxRecDepth 100000 in
theorem c_X2_noteStalled (n : Nat) (l : Launch) (k : KT) (a_th : Nat → Nat) (th_0 : OS) (v1_0 : Int32) (res : (OS)) (hf : f_X2_noteStalled n th_0 v1_0 = some res) : CG l k yX2_noteStalled cX2_noteStalled 3 none 0 0 0 0 [.ref (a_th 0), .int v1_0] (wCourt k a_th th_0) (Qv k (fun u : OS => wCourt k a_th u) (fun u : OS => res = u)) := by
  refine CG.ofV (by decide) (Nat.le_of_ble_eq_true rfl) (fun p e s m args below meth c A Q E hnm hW hA hret ls hl => ?_)
  have hl : lv_has ls 3 [(0, .ref (a_th 0)), (1, .int v1_0)] := hl
  unfold f_X2_noteStalled at hf
  refine k_aload_n E hl 0 dX2_noteStalled_0 rfl ?_
  refine gf_X2_9 E hW 0 rfl rfl dX2_noteStalled_1 ?_
  refine lv_iconst (v := (3 : Int32)) E.hx E.hb dX2_noteStalled_4 ic_3 ?_
  refine lv_ishr E.hx E.hb dX2_noteStalled_5 ?_
  obtain ⟨v2_1, ev2_1, hf⟩ := oL hf
  refine k_istore_n (lv' := [(2, .int v2_1), (0, .ref (a_th 0)), (1, .int v1_0)]) E ev2_1 hl dX2_noteStalled_6 rfl (by decide) rfl (fun ls hl => ?_)
  refine k_iload_n E hl 0 dX2_noteStalled_7 rfl ?_
  refine lv_if_lt (tgt := 43) E.hx E.hb dX2_noteStalled_8 (by decide) (fun hc => ?_) (fun hc => ?_)
  · have hf := oT hc hf
    exact hret th_0 _ _ _ _ _ _ hW (Option.some.inj hf).symm (by decide) (by decide) dX2_noteStalled_43
  · have hf := oF hc hf
    refine k_iload_n E hl 0 dX2_noteStalled_11 rfl ?_
    refine k_aload_n E hl 1 dX2_noteStalled_12 rfl ?_
    refine gf_X2_39 E hW 0 rfl rfl dX2_noteStalled_13 ?_
    refine k_alen (v := (251 : Int32)) E hW 1 1 rfl rfl on_251 dX2_noteStalled_16 ?_
    refine lv_icmp_ge (tgt := 43) E.hx E.hb dX2_noteStalled_17 (by decide) (fun hc => ?_) (fun hc => ?_)
    · have hf := oT hc hf
      exact hret th_0 _ _ _ _ _ _ hW (Option.some.inj hf).symm (by decide) (by decide) dX2_noteStalled_43
    · have hf := oF hc hf
      refine k_aload_n E hl 1 dX2_noteStalled_20 rfl ?_
      refine gf_X2_39 E hW 0 rfl rfl dX2_noteStalled_21 ?_
      refine k_iload_n E hl 0 dX2_noteStalled_24 rfl ?_
      refine lv_dup2_11 E.hx E.hb dX2_noteStalled_25 rfl rfl ?_
      obtain ⟨hin, hf⟩ := oI hf
      obtain ⟨x_2, ex_2, hf⟩ := oL hf
      refine k_lald E hW 1 rfl hin dX2_noteStalled_26 ?_
      refine k_topl ex_2 ?_
      refine lv_lconst (v := (1 : Int64)) E.hx E.hb dX2_noteStalled_27 (by decide) ?_
      refine k_aload_n E hl 1 dX2_noteStalled_28 rfl ?_
      refine gf_X2_9 E hW 0 rfl rfl dX2_noteStalled_29 ?_
      refine lv_bipush (v := (7 : Int32)) E.hx E.hb dX2_noteStalled_32 bp_7 ?_
      refine lv_iand E.hx E.hb dX2_noteStalled_34 ?_
      refine lv_bipush (v := (8 : Int32)) E.hx E.hb dX2_noteStalled_35 bp_8 ?_
      refine lv_imul E.hx E.hb dX2_noteStalled_37 ?_
      refine k_iload_n E hl 2 dX2_noteStalled_38 rfl ?_
      refine lv_iadd E.hx E.hb dX2_noteStalled_39 ?_
      refine lv_lshl (v := ((1 : Int64) <<< (((((th_0.1 0) &&& (7 : Int32)) * (8 : Int32)) + v1_0).toInt64 &&& 63))) E.hx E.hb dX2_noteStalled_40 rfl ?_
      refine lv_lor E.hx E.hb dX2_noteStalled_41 ?_
      obtain ⟨hin, hf⟩ := oI hf
      obtain ⟨th_3, eth_3, hf⟩ := oL hf
      refine k_last (ws2 := wCourt k a_th th_3) E hW 1 rfl hin dX2_noteStalled_42 (by rw [eth_3]; rfl) (fun H locs hW => ?_)
      exact hret th_3 _ _ _ _ _ _ hW (Option.some.inj hf).symm (by decide) (by decide) dX2_noteStalled_43
def f_X2_fineFor (n : Nat) (th_0 : OS) (v1_0 : Int32) (v2_0 : Int32) : Option (OS × Int32) :=
  bnd (f_X6_get n (8 : Int32) 640 (th_0.2.1 12) v1_0 (0 : Int32)) (fun (r_1 : Int32) =>
  bnd (f_X6_get n (5 : Int32) 40 (th_0.2.1 11) r_1 (0 : Int32)) (fun (r_2 : Int32) =>
  bnd (f_X6_get n (8 : Int32) 640 (th_0.2.1 12) v1_0 (2 : Int32)) (fun (r_3 : Int32) =>
  Let (if r_3 < (th_0.1 7) then (th_0.1 7) else r_3) (fun v5_4 : Int32 =>
  bnd (f_X6_get n (8 : Int32) 640 (th_0.2.1 12) v1_0 (1 : Int32)) (fun (r_5 : Int32) =>
  Let (((th_0.1 0) - v5_4) * r_5) (fun v6_6 : Int32 =>
  bnd (f_X2_quotientUp n (v6_6 * (v2_0 + r_2)) (100 : Int32)) (fun (r_7 : Int32) =>
  Let (if r_7 < (200 : Int32) then r_7 else (200 : Int32)) (fun v7_8 : Int32 =>
  Let (rm32 (th_0.1 5) (40 : Int32)) (fun v8_9 : Int32 =>
  Let (sI th_0 5 ((th_0.1 5) + (1 : Int32))) (fun th_10 : OS =>
  bnd (f_X6_set n (8 : Int32) 320 (th_10.2.1 14) v8_9 (0 : Int32) r_1) (fun (y_11 : Nat → Int32) =>
  Let (sA th_10 14 y_11) (fun th_12 : OS =>
  bnd (f_X6_set n (8 : Int32) 320 (th_12.2.1 14) v8_9 (1 : Int32) v1_0) (fun (y_13 : Nat → Int32) =>
  Let (sA th_12 14 y_13) (fun th_14 : OS =>
  bnd (f_X6_set n (8 : Int32) 320 (th_14.2.1 14) v8_9 (2 : Int32) v6_6) (fun (y_15 : Nat → Int32) =>
  Let (sA th_14 14 y_15) (fun th_16 : OS =>
  bnd (f_X6_set n (8 : Int32) 320 (th_16.2.1 14) v8_9 (3 : Int32) v5_4) (fun (y_17 : Nat → Int32) =>
  Let (sA th_16 14 y_17) (fun th_18 : OS =>
  bnd (f_X6_set n (8 : Int32) 320 (th_18.2.1 14) v8_9 (4 : Int32) (th_18.1 0)) (fun (y_19 : Nat → Int32) =>
  Let (sA th_18 14 y_19) (fun th_20 : OS =>
  bnd (f_X6_set n (8 : Int32) 320 (th_20.2.1 14) v8_9 (5 : Int32) v7_8) (fun (y_21 : Nat → Int32) =>
  Let (sA th_20 14 y_21) (fun th_22 : OS =>
  bnd (f_X6_set n (8 : Int32) 320 (th_22.2.1 14) v8_9 (6 : Int32) (0 : Int32)) (fun (y_23 : Nat → Int32) =>
  Let (sA th_22 14 y_23) (fun th_24 : OS =>
  bnd (f_X6_set n (8 : Int32) 320 (th_24.2.1 14) v8_9 (7 : Int32) v7_8) (fun (y_25 : Nat → Int32) =>
  Let (sA th_24 14 y_25) (fun th_26 : OS =>
  bnd (f_X6_add n (5 : Int32) 40 (th_26.2.1 11) r_1 (3 : Int32) (1 : Int32)) (fun (y_27 : Nat → Int32) =>
  Let (sA th_26 11 y_27) (fun th_28 : OS =>
  bnd (f_X6_get n (5 : Int32) 40 (th_28.2.1 11) r_1 (1 : Int32)) (fun (r_29 : Int32) =>
  bnd (f_X6_set n (5 : Int32) 40 (th_28.2.1 11) r_1 (1 : Int32) (if (r_29 + v7_8) < (999 : Int32) then (r_29 + v7_8) else (999 : Int32))) (fun (y_30 : Nat → Int32) =>
  Let (sA th_28 11 y_30) (fun th_31 : OS =>
  bnd (f_X6_set n (5 : Int32) 40 (th_31.2.1 11) r_1 (0 : Int32) (if (r_2 + v6_6) < (999 : Int32) then (r_2 + v6_6) else (999 : Int32))) (fun (y_32 : Nat → Int32) =>
  Let (sA th_31 11 y_32) (fun th_33 : OS =>
  some (th_33, v7_8))))))))))))))))))))))))))))))))))
set_option maxHeartbeats 4000000 in
set_option maxRecDepth 100000 in
theorem c_X2_fineFor (n : Nat) (l : Launch) (k : KT) (a_th : Nat → Nat) (th_0 : OS) (v1_0 : Int32) (v2_0 : Int32) (res : (OS × Int32)) (hf : f_X2_fineFor n th_0 v1_0 v2_0 = some res) : CG l k yX2_fineFor cX2_fineFor 9 (some .int) 1 0 0 24 [.ref (a_th 0), .int v1_0, .int v2_0] (wCourt k a_th th_0) (Qi k (fun u : OS => wCourt k a_th u) (fun (r : Int32) (u : OS) => res = (u, r))) := by
  refine CG.ofI (by decide) (Nat.le_of_ble_eq_true rfl) (fun p e s m args below meth c A Q E hnm hW hA hret ls hl => ?_)
  have hl : lv_has ls 9 [(0, .ref (a_th 0)), (1, .int v1_0), (2, .int v2_0)] := hl
  unfold f_X2_fineFor at hf
  refine k_aload_n E hl 0 dX2_fineFor_0 rfl ?_
  refine gf_X2_56 E hW 0 rfl rfl dX2_fineFor_1 ?_
  refine k_iload_n E hl 1 dX2_fineFor_4 rfl ?_
  refine lv_iconst (v := (0 : Int32)) E.hx E.hb dX2_fineFor_5 ic_0 ?_
  obtain ⟨r_1, hg, hf⟩ := ob hf
  refine k_callVi (As := [.int v1_0, .int (0 : Int32)]) (rest := []) (ws2 := fun u => wCourt k a_th th_0) (c_X6_get n l k (fun j => a_th (5 + j)) (8 : Int32) 640 (th_0.2.1 12) v1_0 (0 : Int32) r_1 hg) E vl_X2_100 dX2_fineFor_6 rfl [5, 6] 7 5 hW hA hl rfl rfl rfl rfl ⟨by decide, by decide⟩ ⟨by decide, by decide⟩ (Nat.le_of_ble_eq_true rfl) rfl (fun _ => rfl) (fun _ => rfl) (fun r u H locs hp hW => ?_)
  cases hp
  have hW : WD k A s.heap (wCourt k a_th th_0) H locs := hW
  refine k_istore_n (lv' := [(3, .int r_1), (0, .ref (a_th 0)), (1, .int v1_0), (2, .int v2_0)]) E rfl hl dX2_fineFor_9 rfl (by decide) rfl (fun ls hl => ?_)
  refine k_aload_n E hl 1 dX2_fineFor_10 rfl ?_
  refine gf_X2_52 E hW 0 rfl rfl dX2_fineFor_11 ?_
  refine k_iload_n E hl 0 dX2_fineFor_14 rfl ?_
  refine lv_iconst (v := (0 : Int32)) E.hx E.hb dX2_fineFor_15 ic_0 ?_
  obtain ⟨r_2, hg, hf⟩ := ob hf
  refine k_callVi (As := [.int r_1, .int (0 : Int32)]) (rest := []) (ws2 := fun u => wCourt k a_th th_0) (c_X6_get n l k (fun j => a_th (3 + j)) (5 : Int32) 40 (th_0.2.1 11) r_1 (0 : Int32) r_2 hg) E vl_X2_100 dX2_fineFor_16 rfl [3, 4] 7 3 hW hA hl rfl rfl rfl rfl ⟨by decide, by decide⟩ ⟨by decide, by decide⟩ (Nat.le_of_ble_eq_true rfl) rfl (fun _ => rfl) (fun _ => rfl) (fun r u H locs hp hW => ?_)
  cases hp
  have hW : WD k A s.heap (wCourt k a_th th_0) H locs := hW
  refine k_istore (lv' := [(4, .int r_2), (3, .int r_1), (0, .ref (a_th 0)), (1, .int v1_0), (2, .int v2_0)]) E rfl hl dX2_fineFor_19 (by decide) rfl (fun ls hl => ?_)
  refine k_aload_n E hl 2 dX2_fineFor_21 rfl ?_
  refine gf_X2_56 E hW 0 rfl rfl dX2_fineFor_22 ?_
  refine k_iload_n E hl 3 dX2_fineFor_25 rfl ?_
  refine lv_iconst (v := (2 : Int32)) E.hx E.hb dX2_fineFor_26 ic_2 ?_
  obtain ⟨r_3, hg, hf⟩ := ob hf
  refine k_callVi (As := [.int v1_0, .int (2 : Int32)]) (rest := []) (ws2 := fun u => wCourt k a_th th_0) (c_X6_get n l k (fun j => a_th (5 + j)) (8 : Int32) 640 (th_0.2.1 12) v1_0 (2 : Int32) r_3 hg) E vl_X2_100 dX2_fineFor_27 rfl [5, 6] 7 5 hW hA hl rfl rfl rfl rfl ⟨by decide, by decide⟩ ⟨by decide, by decide⟩ (Nat.le_of_ble_eq_true rfl) rfl (fun _ => rfl) (fun _ => rfl) (fun r u H locs hp hW => ?_)
  cases hp
  have hW : WD k A s.heap (wCourt k a_th th_0) H locs := hW
  refine k_aload_n E hl 2 dX2_fineFor_30 rfl ?_
  refine gf_X2_33 E hW 0 rfl rfl dX2_fineFor_31 ?_
  refine va_mmax E.hx E.hb (E.hml.trans hl.1.symm) E.ho (E.w tm_576 rfl) (E.w tm_77 rfl) (E.w tm_35 rfl) (E.w tm_78 rfl) (by decide) (Nat.le_of_ble_eq_true rfl) (by decide) (by decide) dX2_fineFor_34 ?_
  obtain ⟨v5_4, ev5_4, hf⟩ := oL hf
  refine k_istore (lv' := [(5, .int v5_4), (4, .int r_2), (3, .int r_1), (0, .ref (a_th 0)), (1, .int v1_0), (2, .int v2_0)]) E ev5_4 hl dX2_fineFor_37 (by decide) rfl (fun ls hl => ?_)
  refine k_aload_n E hl 3 dX2_fineFor_39 rfl ?_
  refine gf_X2_9 E hW 0 rfl rfl dX2_fineFor_40 ?_
  refine k_iload E hl 0 dX2_fineFor_43 rfl ?_
  refine lv_isub E.hx E.hb dX2_fineFor_45 ?_
  refine k_aload_n E hl 3 dX2_fineFor_46 rfl ?_
  refine gf_X2_56 E hW 0 rfl rfl dX2_fineFor_47 ?_
  refine k_iload_n E hl 4 dX2_fineFor_50 rfl ?_
  refine lv_iconst (v := (1 : Int32)) E.hx E.hb dX2_fineFor_51 ic_1 ?_
  obtain ⟨r_5, hg, hf⟩ := ob hf
  refine k_callVi (As := [.int v1_0, .int (1 : Int32)]) (rest := [.int ((th_0.1 0) - v5_4)]) (ws2 := fun u => wCourt k a_th th_0) (c_X6_get n l k (fun j => a_th (5 + j)) (8 : Int32) 640 (th_0.2.1 12) v1_0 (1 : Int32) r_5 hg) E vl_X2_100 dX2_fineFor_52 rfl [5, 6] 7 5 hW hA hl rfl rfl rfl rfl ⟨by decide, by decide⟩ ⟨by decide, by decide⟩ (Nat.le_of_ble_eq_true rfl) rfl (fun _ => rfl) (fun _ => rfl) (fun r u H locs hp hW => ?_)
  cases hp
  have hW : WD k A s.heap (wCourt k a_th th_0) H locs := hW
  refine lv_imul E.hx E.hb dX2_fineFor_55 ?_
  obtain ⟨v6_6, ev6_6, hf⟩ := oL hf
  refine k_istore (lv' := [(6, .int v6_6), (5, .int v5_4), (4, .int r_2), (3, .int r_1), (0, .ref (a_th 0)), (1, .int v1_0), (2, .int v2_0)]) E ev6_6 hl dX2_fineFor_56 (by decide) rfl (fun ls hl => ?_)
  refine lv_sipush (v := (200 : Int32)) E.hx E.hb dX2_fineFor_58 sp_200 ?_
  refine k_iload E hl 0 dX2_fineFor_61 rfl ?_
  refine k_iload_n E hl 6 dX2_fineFor_63 rfl ?_
  refine k_iload E hl 2 dX2_fineFor_64 rfl ?_
  refine lv_iadd E.hx E.hb dX2_fineFor_66 ?_
  refine lv_imul E.hx E.hb dX2_fineFor_67 ?_
  refine lv_bipush (v := (100 : Int32)) E.hx E.hb dX2_fineFor_68 bp_100 ?_
  obtain ⟨r_7, hg, hf⟩ := ob hf
  refine k_callSi (As := [.int (v6_6 * (v2_0 + r_2)), .int (100 : Int32)]) (rest := [.int (200 : Int32)]) (ws2 := fun u => wCourt k a_th th_0) (c_X2_quotientUp n l k (v6_6 * (v2_0 + r_2)) (100 : Int32) r_7 hg) E sl_X2_139 dX2_fineFor_70 rfl [] hW hA hl rfl rfl ⟨by decide, by decide⟩ ⟨by decide, by decide⟩ (Nat.le_of_ble_eq_true rfl) rfl (fun _ => rfl) (fun _ => rfl) (fun r u H locs hp hW => ?_)
  cases hp
  have hW : WD k A s.heap (wCourt k a_th th_0) H locs := hW
  refine va_mmin E.hx E.hb (E.hml.trans hl.1.symm) E.ho (E.w tm_580 rfl) (E.w tm_537 rfl) (E.w tm_35 rfl) (E.w tm_538 rfl) (by decide) (Nat.le_of_ble_eq_true rfl) (by decide) (by decide) dX2_fineFor_73 ?_
  obtain ⟨v7_8, ev7_8, hf⟩ := oL hf
  refine k_istore (lv' := [(7, .int v7_8), (6, .int v6_6), (5, .int v5_4), (4, .int r_2), (3, .int r_1), (0, .ref (a_th 0)), (1, .int v1_0), (2, .int v2_0)]) E ev7_8 hl dX2_fineFor_76 (by decide) rfl (fun ls hl => ?_)
  refine k_aload_n E hl 5 dX2_fineFor_78 rfl ?_
  refine gf_X2_27 E hW 0 rfl rfl dX2_fineFor_79 ?_
  refine lv_bipush (v := (40 : Int32)) E.hx E.hb dX2_fineFor_82 bp_40 ?_
  refine lv_irem E.hx E.hb dX2_fineFor_84 (by decide) ?_
  obtain ⟨v8_9, ev8_9, hf⟩ := oL hf
  refine k_istore (lv' := [(8, .int v8_9), (7, .int v7_8), (6, .int v6_6), (5, .int v5_4), (4, .int r_2), (3, .int r_1), (0, .ref (a_th 0)), (1, .int v1_0), (2, .int v2_0)]) E ev8_9 hl dX2_fineFor_85 (by decide) rfl (fun ls hl => ?_)
  refine k_aload_n E hl 6 dX2_fineFor_87 rfl ?_
  refine lv_dup E.hx E.hb dX2_fineFor_88 rfl ?_
  refine gf_X2_27 E hW 0 rfl rfl dX2_fineFor_89 ?_
  refine lv_iconst (v := (1 : Int32)) E.hx E.hb dX2_fineFor_92 ic_1 ?_
  refine lv_iadd E.hx E.hb dX2_fineFor_93 ?_
  obtain ⟨th_10, eth_10, hf⟩ := oL hf
  refine pf_X2_27 (ws2 := wCourt k a_th th_10) E hW 0 rfl rfl rfl (Nat.le_of_ble_eq_true rfl) dX2_fineFor_94 (by rw [eth_10]; rfl) (fun H locs hW => ?_)
  refine k_aload_n E hl 6 dX2_fineFor_97 rfl ?_
  refine gf_X2_62 E hW 0 rfl rfl dX2_fineFor_98 ?_
  refine k_iload E hl 0 dX2_fineFor_101 rfl ?_
  refine lv_iconst (v := (0 : Int32)) E.hx E.hb dX2_fineFor_103 ic_0 ?_
  refine k_iload_n E hl 5 dX2_fineFor_104 rfl ?_
  obtain ⟨y_11, hg, hf⟩ := ob hf
  obtain ⟨th_12, eth_12, hf⟩ := oL hf
  refine k_callVv (As := [.int v8_9, .int (0 : Int32), .int r_1]) (rest := []) (ws2 := fun u => wCourt k a_th (sA th_10 14 (u))) (c_X6_set n l k (fun j => a_th (9 + j)) (8 : Int32) 320 (th_10.2.1 14) v8_9 (0 : Int32) r_1 y_11 hg) E vl_X2_93 dX2_fineFor_105 rfl [9, 10] 7 9 hW hA hl rfl rfl rfl rfl ⟨by decide, by decide⟩ ⟨by decide, by decide⟩ (Nat.le_of_ble_eq_true rfl) rfl (fun _ => rfl) (fun _ => rfl) (fun u H locs hp hW => ?_)
  cases hp
  have hW : WD k A s.heap (wCourt k a_th th_12) H locs := by rw [eth_12]; exact hW
  refine k_aload_n E hl 6 dX2_fineFor_108 rfl ?_
  refine gf_X2_62 E hW 0 rfl rfl dX2_fineFor_109 ?_
  refine k_iload E hl 0 dX2_fineFor_112 rfl ?_
  refine lv_iconst (v := (1 : Int32)) E.hx E.hb dX2_fineFor_114 ic_1 ?_
  refine k_iload_n E hl 7 dX2_fineFor_115 rfl ?_
  obtain ⟨y_13, hg, hf⟩ := ob hf
  obtain ⟨th_14, eth_14, hf⟩ := oL hf
  refine k_callVv (As := [.int v8_9, .int (1 : Int32), .int v1_0]) (rest := []) (ws2 := fun u => wCourt k a_th (sA th_12 14 (u))) (c_X6_set n l k (fun j => a_th (9 + j)) (8 : Int32) 320 (th_12.2.1 14) v8_9 (1 : Int32) v1_0 y_13 hg) E vl_X2_93 dX2_fineFor_116 rfl [9, 10] 7 9 hW hA hl rfl rfl rfl rfl ⟨by decide, by decide⟩ ⟨by decide, by decide⟩ (Nat.le_of_ble_eq_true rfl) rfl (fun _ => rfl) (fun _ => rfl) (fun u H locs hp hW => ?_)
  cases hp
  have hW : WD k A s.heap (wCourt k a_th th_14) H locs := by rw [eth_14]; exact hW
  refine k_aload_n E hl 6 dX2_fineFor_119 rfl ?_
  refine gf_X2_62 E hW 0 rfl rfl dX2_fineFor_120 ?_
  refine k_iload E hl 0 dX2_fineFor_123 rfl ?_
  refine lv_iconst (v := (2 : Int32)) E.hx E.hb dX2_fineFor_125 ic_2 ?_
  refine k_iload E hl 2 dX2_fineFor_126 rfl ?_
  obtain ⟨y_15, hg, hf⟩ := ob hf
  obtain ⟨th_16, eth_16, hf⟩ := oL hf
  refine k_callVv (As := [.int v8_9, .int (2 : Int32), .int v6_6]) (rest := []) (ws2 := fun u => wCourt k a_th (sA th_14 14 (u))) (c_X6_set n l k (fun j => a_th (9 + j)) (8 : Int32) 320 (th_14.2.1 14) v8_9 (2 : Int32) v6_6 y_15 hg) E vl_X2_93 dX2_fineFor_128 rfl [9, 10] 7 9 hW hA hl rfl rfl rfl rfl ⟨by decide, by decide⟩ ⟨by decide, by decide⟩ (Nat.le_of_ble_eq_true rfl) rfl (fun _ => rfl) (fun _ => rfl) (fun u H locs hp hW => ?_)
  cases hp
  have hW : WD k A s.heap (wCourt k a_th th_16) H locs := by rw [eth_16]; exact hW
  refine k_aload_n E hl 6 dX2_fineFor_131 rfl ?_
  refine gf_X2_62 E hW 0 rfl rfl dX2_fineFor_132 ?_
  refine k_iload E hl 0 dX2_fineFor_135 rfl ?_
  refine lv_iconst (v := (3 : Int32)) E.hx E.hb dX2_fineFor_137 ic_3 ?_
  refine k_iload E hl 3 dX2_fineFor_138 rfl ?_
  obtain ⟨y_17, hg, hf⟩ := ob hf
  obtain ⟨th_18, eth_18, hf⟩ := oL hf
  refine k_callVv (As := [.int v8_9, .int (3 : Int32), .int v5_4]) (rest := []) (ws2 := fun u => wCourt k a_th (sA th_16 14 (u))) (c_X6_set n l k (fun j => a_th (9 + j)) (8 : Int32) 320 (th_16.2.1 14) v8_9 (3 : Int32) v5_4 y_17 hg) E vl_X2_93 dX2_fineFor_140 rfl [9, 10] 7 9 hW hA hl rfl rfl rfl rfl ⟨by decide, by decide⟩ ⟨by decide, by decide⟩ (Nat.le_of_ble_eq_true rfl) rfl (fun _ => rfl) (fun _ => rfl) (fun u H locs hp hW => ?_)
  cases hp
  have hW : WD k A s.heap (wCourt k a_th th_18) H locs := by rw [eth_18]; exact hW
  refine k_aload_n E hl 6 dX2_fineFor_143 rfl ?_
  refine gf_X2_62 E hW 0 rfl rfl dX2_fineFor_144 ?_
  refine k_iload E hl 0 dX2_fineFor_147 rfl ?_
  refine lv_iconst (v := (4 : Int32)) E.hx E.hb dX2_fineFor_149 ic_4 ?_
  refine k_aload_n E hl 6 dX2_fineFor_150 rfl ?_
  refine gf_X2_9 E hW 0 rfl rfl dX2_fineFor_151 ?_
  obtain ⟨y_19, hg, hf⟩ := ob hf
  obtain ⟨th_20, eth_20, hf⟩ := oL hf
  refine k_callVv (As := [.int v8_9, .int (4 : Int32), .int (th_18.1 0)]) (rest := []) (ws2 := fun u => wCourt k a_th (sA th_18 14 (u))) (c_X6_set n l k (fun j => a_th (9 + j)) (8 : Int32) 320 (th_18.2.1 14) v8_9 (4 : Int32) (th_18.1 0) y_19 hg) E vl_X2_93 dX2_fineFor_154 rfl [9, 10] 7 9 hW hA hl rfl rfl rfl rfl ⟨by decide, by decide⟩ ⟨by decide, by decide⟩ (Nat.le_of_ble_eq_true rfl) rfl (fun _ => rfl) (fun _ => rfl) (fun u H locs hp hW => ?_)
  cases hp
  have hW : WD k A s.heap (wCourt k a_th th_20) H locs := by rw [eth_20]; exact hW
  refine k_aload_n E hl 6 dX2_fineFor_157 rfl ?_
  refine gf_X2_62 E hW 0 rfl rfl dX2_fineFor_158 ?_
  refine k_iload E hl 0 dX2_fineFor_161 rfl ?_
  refine lv_iconst (v := (5 : Int32)) E.hx E.hb dX2_fineFor_163 ic_5 ?_
  refine k_iload E hl 1 dX2_fineFor_164 rfl ?_
  obtain ⟨y_21, hg, hf⟩ := ob hf
  obtain ⟨th_22, eth_22, hf⟩ := oL hf
  refine k_callVv (As := [.int v8_9, .int (5 : Int32), .int v7_8]) (rest := []) (ws2 := fun u => wCourt k a_th (sA th_20 14 (u))) (c_X6_set n l k (fun j => a_th (9 + j)) (8 : Int32) 320 (th_20.2.1 14) v8_9 (5 : Int32) v7_8 y_21 hg) E vl_X2_93 dX2_fineFor_166 rfl [9, 10] 7 9 hW hA hl rfl rfl rfl rfl ⟨by decide, by decide⟩ ⟨by decide, by decide⟩ (Nat.le_of_ble_eq_true rfl) rfl (fun _ => rfl) (fun _ => rfl) (fun u H locs hp hW => ?_)
  cases hp
  have hW : WD k A s.heap (wCourt k a_th th_22) H locs := by rw [eth_22]; exact hW
  refine k_aload_n E hl 6 dX2_fineFor_169 rfl ?_
  refine gf_X2_62 E hW 0 rfl rfl dX2_fineFor_170 ?_
  refine k_iload E hl 0 dX2_fineFor_173 rfl ?_
  refine lv_bipush (v := (6 : Int32)) E.hx E.hb dX2_fineFor_175 bp_6 ?_
  refine lv_iconst (v := (0 : Int32)) E.hx E.hb dX2_fineFor_177 ic_0 ?_
  obtain ⟨y_23, hg, hf⟩ := ob hf
  obtain ⟨th_24, eth_24, hf⟩ := oL hf
  refine k_callVv (As := [.int v8_9, .int (6 : Int32), .int (0 : Int32)]) (rest := []) (ws2 := fun u => wCourt k a_th (sA th_22 14 (u))) (c_X6_set n l k (fun j => a_th (9 + j)) (8 : Int32) 320 (th_22.2.1 14) v8_9 (6 : Int32) (0 : Int32) y_23 hg) E vl_X2_93 dX2_fineFor_178 rfl [9, 10] 7 9 hW hA hl rfl rfl rfl rfl ⟨by decide, by decide⟩ ⟨by decide, by decide⟩ (Nat.le_of_ble_eq_true rfl) rfl (fun _ => rfl) (fun _ => rfl) (fun u H locs hp hW => ?_)
  cases hp
  have hW : WD k A s.heap (wCourt k a_th th_24) H locs := by rw [eth_24]; exact hW
  refine k_aload_n E hl 6 dX2_fineFor_181 rfl ?_
  refine gf_X2_62 E hW 0 rfl rfl dX2_fineFor_182 ?_
  refine k_iload E hl 0 dX2_fineFor_185 rfl ?_
  refine lv_bipush (v := (7 : Int32)) E.hx E.hb dX2_fineFor_187 bp_7 ?_
  refine k_iload E hl 1 dX2_fineFor_189 rfl ?_
  obtain ⟨y_25, hg, hf⟩ := ob hf
  obtain ⟨th_26, eth_26, hf⟩ := oL hf
  refine k_callVv (As := [.int v8_9, .int (7 : Int32), .int v7_8]) (rest := []) (ws2 := fun u => wCourt k a_th (sA th_24 14 (u))) (c_X6_set n l k (fun j => a_th (9 + j)) (8 : Int32) 320 (th_24.2.1 14) v8_9 (7 : Int32) v7_8 y_25 hg) E vl_X2_93 dX2_fineFor_191 rfl [9, 10] 7 9 hW hA hl rfl rfl rfl rfl ⟨by decide, by decide⟩ ⟨by decide, by decide⟩ (Nat.le_of_ble_eq_true rfl) rfl (fun _ => rfl) (fun _ => rfl) (fun u H locs hp hW => ?_)
  cases hp
  have hW : WD k A s.heap (wCourt k a_th th_26) H locs := by rw [eth_26]; exact hW
  refine k_aload_n E hl 6 dX2_fineFor_194 rfl ?_
  refine gf_X2_52 E hW 0 rfl rfl dX2_fineFor_195 ?_
  refine k_iload_n E hl 5 dX2_fineFor_198 rfl ?_
  refine lv_iconst (v := (3 : Int32)) E.hx E.hb dX2_fineFor_199 ic_3 ?_
  refine lv_iconst (v := (1 : Int32)) E.hx E.hb dX2_fineFor_200 ic_1 ?_
  obtain ⟨y_27, hg, hf⟩ := ob hf
  obtain ⟨th_28, eth_28, hf⟩ := oL hf
  refine k_callVv (As := [.int r_1, .int (3 : Int32), .int (1 : Int32)]) (rest := []) (ws2 := fun u => wCourt k a_th (sA th_26 11 (u))) (c_X6_add n l k (fun j => a_th (3 + j)) (5 : Int32) 40 (th_26.2.1 11) r_1 (3 : Int32) (1 : Int32) y_27 hg) E vl_X2_97 dX2_fineFor_201 rfl [3, 4] 7 3 hW hA hl rfl rfl rfl rfl ⟨by decide, by decide⟩ ⟨by decide, by decide⟩ (Nat.le_of_ble_eq_true rfl) rfl (fun _ => rfl) (fun _ => rfl) (fun u H locs hp hW => ?_)
  cases hp
  have hW : WD k A s.heap (wCourt k a_th th_28) H locs := by rw [eth_28]; exact hW
  refine k_aload_n E hl 6 dX2_fineFor_204 rfl ?_
  refine gf_X2_52 E hW 0 rfl rfl dX2_fineFor_205 ?_
  refine k_iload_n E hl 5 dX2_fineFor_208 rfl ?_
  refine lv_iconst (v := (1 : Int32)) E.hx E.hb dX2_fineFor_209 ic_1 ?_
  refine lv_sipush (v := (999 : Int32)) E.hx E.hb dX2_fineFor_210 sp_999 ?_
  refine k_aload_n E hl 6 dX2_fineFor_213 rfl ?_
  refine gf_X2_52 E hW 0 rfl rfl dX2_fineFor_214 ?_
  refine k_iload_n E hl 5 dX2_fineFor_217 rfl ?_
  refine lv_iconst (v := (1 : Int32)) E.hx E.hb dX2_fineFor_218 ic_1 ?_
  obtain ⟨r_29, hg, hf⟩ := ob hf
  refine k_callVi (As := [.int r_1, .int (1 : Int32)]) (rest := [.int (999 : Int32), .int (1 : Int32), .int r_1, .ref (a_th 3)]) (ws2 := fun u => wCourt k a_th th_28) (c_X6_get n l k (fun j => a_th (3 + j)) (5 : Int32) 40 (th_28.2.1 11) r_1 (1 : Int32) r_29 hg) E vl_X2_100 dX2_fineFor_219 rfl [3, 4] 7 3 hW hA hl rfl rfl rfl rfl ⟨by decide, by decide⟩ ⟨by decide, by decide⟩ (Nat.le_of_ble_eq_true rfl) rfl (fun _ => rfl) (fun _ => rfl) (fun r u H locs hp hW => ?_)
  cases hp
  have hW : WD k A s.heap (wCourt k a_th th_28) H locs := hW
  refine k_iload E hl 1 dX2_fineFor_222 rfl ?_
  refine lv_iadd E.hx E.hb dX2_fineFor_224 ?_
  refine va_mmin E.hx E.hb (E.hml.trans hl.1.symm) E.ho (E.w tm_580 rfl) (E.w tm_537 rfl) (E.w tm_35 rfl) (E.w tm_538 rfl) (by decide) (Nat.le_of_ble_eq_true rfl) (by decide) (by decide) dX2_fineFor_225 ?_
  obtain ⟨y_30, hg, hf⟩ := ob hf
  obtain ⟨th_31, eth_31, hf⟩ := oL hf
  refine k_callVv (As := [.int r_1, .int (1 : Int32), .int (if (r_29 + v7_8) < (999 : Int32) then (r_29 + v7_8) else (999 : Int32))]) (rest := []) (ws2 := fun u => wCourt k a_th (sA th_28 11 (u))) (c_X6_set n l k (fun j => a_th (3 + j)) (5 : Int32) 40 (th_28.2.1 11) r_1 (1 : Int32) (if (r_29 + v7_8) < (999 : Int32) then (r_29 + v7_8) else (999 : Int32)) y_30 hg) E vl_X2_93 dX2_fineFor_228 rfl [3, 4] 7 3 hW hA hl rfl rfl rfl rfl ⟨by decide, by decide⟩ ⟨by decide, by decide⟩ (Nat.le_of_ble_eq_true rfl) rfl (fun _ => rfl) (fun _ => rfl) (fun u H locs hp hW => ?_)
  cases hp
  have hW : WD k A s.heap (wCourt k a_th th_31) H locs := by rw [eth_31]; exact hW
  refine k_aload_n E hl 6 dX2_fineFor_231 rfl ?_
  refine gf_X2_52 E hW 0 rfl rfl dX2_fineFor_232 ?_
  refine k_iload_n E hl 5 dX2_fineFor_235 rfl ?_
  refine lv_iconst (v := (0 : Int32)) E.hx E.hb dX2_fineFor_236 ic_0 ?_
  refine lv_sipush (v := (999 : Int32)) E.hx E.hb dX2_fineFor_237 sp_999 ?_
  refine k_iload E hl 4 dX2_fineFor_240 rfl ?_
  refine k_iload E hl 2 dX2_fineFor_242 rfl ?_
  refine lv_iadd E.hx E.hb dX2_fineFor_244 ?_
  refine va_mmin E.hx E.hb (E.hml.trans hl.1.symm) E.ho (E.w tm_580 rfl) (E.w tm_537 rfl) (E.w tm_35 rfl) (E.w tm_538 rfl) (by decide) (Nat.le_of_ble_eq_true rfl) (by decide) (by decide) dX2_fineFor_245 ?_
  obtain ⟨y_32, hg, hf⟩ := ob hf
  obtain ⟨th_33, eth_33, hf⟩ := oL hf
  refine k_callVv (As := [.int r_1, .int (0 : Int32), .int (if (r_2 + v6_6) < (999 : Int32) then (r_2 + v6_6) else (999 : Int32))]) (rest := []) (ws2 := fun u => wCourt k a_th (sA th_31 11 (u))) (c_X6_set n l k (fun j => a_th (3 + j)) (5 : Int32) 40 (th_31.2.1 11) r_1 (0 : Int32) (if (r_2 + v6_6) < (999 : Int32) then (r_2 + v6_6) else (999 : Int32)) y_32 hg) E vl_X2_93 dX2_fineFor_248 rfl [3, 4] 7 3 hW hA hl rfl rfl rfl rfl ⟨by decide, by decide⟩ ⟨by decide, by decide⟩ (Nat.le_of_ble_eq_true rfl) rfl (fun _ => rfl) (fun _ => rfl) (fun u H locs hp hW => ?_)
  cases hp
  have hW : WD k A s.heap (wCourt k a_th th_33) H locs := by rw [eth_33]; exact hW
  refine k_iload E hl 1 dX2_fineFor_251 rfl ?_
  exact hret _ th_33 _ _ _ _ _ _ hW (Option.some.inj hf).symm rfl (by decide) (by decide) dX2_fineFor_253
def s_X2_hearFines_2 (n : Nat) (p1_0 : OS) (rc_2 : (OS) → (Int32) → Option (OS)) (th_j2 : OS) (w2_j2 : Int32) : Option (OS) :=
  if (th_j2.1 3) ≤ w2_j2 then (
  some th_j2) else (
  bnd (f_X2_isBroken n th_j2 w2_j2) (fun (r_1 : Int32) =>
  if r_1 = 0 then (
  bnd (f_X6_set n (8 : Int32) 640 (th_j2.2.1 12) w2_j2 (5 : Int32) (0 : Int32)) (fun (y_2 : Nat → Int32) =>
  Let (sA th_j2 12 y_2) (fun th_3 : OS =>
  Let (w2_j2 + (1 : Int32)) (fun v2_4 : Int32 =>
  rc_2 th_3 v2_4)))) else (
  bnd2 (f_X2_fineFor n th_j2 w2_j2 (p1_0.1 3)) (fun (th_5 : OS) (r_6 : Int32) =>
  bnd (f_X6_set n (8 : Int32) 640 (th_5.2.1 12) w2_j2 (5 : Int32) r_6) (fun (y_7 : Nat → Int32) =>
  Let (sA th_5 12 y_7) (fun th_8 : OS =>
  Let (w2_j2 + (1 : Int32)) (fun v2_9 : Int32 =>
  rc_2 th_8 v2_9)))))))
def l_X2_hearFines_2 (n : Nat) (p1_0 : OS) : Nat → (OS) → (Int32) → Option (OS)
  | 0 => fun _ _ => none
  | N + 1 => s_X2_hearFines_2 n p1_0 (l_X2_hearFines_2 n p1_0 N)
def f_X2_hearFines (n : Nat) (th_0 : OS) (p1_0 : OS) : Option (OS) :=
  l_X2_hearFines_2 n p1_0 n th_0 (0 : Int32)
set_option maxHeartbeats 4000000 in
set_option maxRecDepth 100000 in
theorem c_X2_hearFines (n : Nat) (l : Launch) (k : KT) (a_th : Nat → Nat) (a_p1 : Nat → Nat) (th_0 : OS) (p1_0 : OS) (res : (OS)) (hf : f_X2_hearFines n th_0 p1_0 = some res) : CG l k yX2_hearFines cX2_hearFines 3 none 2 0 0 52 [.ref (a_th 0), .ref (a_p1 0)] (wCourt k a_th th_0 ++ wRules k a_p1 p1_0) (Qv k (fun u : OS => wCourt k a_th u ++ wRules k a_p1 p1_0) (fun u : OS => res = u)) := by
  refine CG.ofV (by decide) (Nat.le_of_ble_eq_true rfl) (fun p e s m args below meth c A Q E hnm hW hA hret ls hl => ?_)
  have hl : lv_has ls 3 [(0, .ref (a_th 0)), (1, .ref (a_p1 0))] := hl
  unfold f_X2_hearFines at hf
  refine lv_iconst (v := (0 : Int32)) E.hx E.hb dX2_hearFines_0 ic_0 ?_
  refine k_istore_n (lv' := [(2, .int (0 : Int32)), (0, .ref (a_th 0)), (1, .ref (a_p1 0))]) E rfl hl dX2_hearFines_1 rfl (by decide) rfl (fun ls hl => ?_)
  have L_2 : ∀ (N_2 : Nat) (th_j2 : OS) (w2_j2 : Int32) (H : Heap) (locs : List Loc) (ls : Array Slot) (hW : WD k A s.heap (wCourt k a_th th_j2 ++ wRules k a_p1 p1_0) H locs) (hl : lv_has ls 3 [(0, .ref (a_th 0)), (1, .ref (a_p1 0)), (2, .int w2_j2)]) (hf : l_X2_hearFines_2 n p1_0 N_2 th_j2 w2_j2 = some res), W p l e { frames := 2, cells := 0, slots := 0, locals := 52 } s m args below meth c H locs 0 0 Q (F0 m 2 ls []) := by
    intro N_2
    induction N_2 with
    | zero => intro th_j2 w2_j2 H locs ls hW hl hf; exact o0 hf
    | succ N_2 ih_2 =>
      intro th_j2 w2_j2 H locs ls hW hl hf
      have hf : s_X2_hearFines_2 n p1_0 (l_X2_hearFines_2 n p1_0 N_2) th_j2 w2_j2 = some res := hf
      unfold s_X2_hearFines_2 at hf
      refine k_iload_n E hl 2 dX2_hearFines_2 rfl ?_
      refine k_aload_n E hl 0 dX2_hearFines_3 rfl ?_
      refine gf_X2_21 E hW 0 rfl rfl dX2_hearFines_4 ?_
      refine lv_icmp_ge (tgt := 46) E.hx E.hb dX2_hearFines_7 (by decide) (fun hc => ?_) (fun hc => ?_)
      · have hf := oT hc hf
        exact hret th_j2 _ _ _ _ _ _ hW (Option.some.inj hf).symm (by decide) (by decide) dX2_hearFines_46
      · have hf := oF hc hf
        refine k_aload_n E hl 0 dX2_hearFines_10 rfl ?_
        refine gf_X2_56 E hW 0 rfl rfl dX2_hearFines_11 ?_
        refine k_iload_n E hl 2 dX2_hearFines_14 rfl ?_
        refine lv_iconst (v := (5 : Int32)) E.hx E.hb dX2_hearFines_15 ic_5 ?_
        refine k_aload_n E hl 0 dX2_hearFines_16 rfl ?_
        refine k_iload_n E hl 2 dX2_hearFines_17 rfl ?_
        obtain ⟨r_1, hg, hf⟩ := ob hf
        refine k_callVi (As := [.int w2_j2]) (rest := [.int (5 : Int32), .int w2_j2, .ref (a_th 5)]) (ws2 := fun u => wCourt k a_th th_j2 ++ wRules k a_p1 p1_0) (c_X2_isBroken n l k a_th th_j2 w2_j2 r_1 hg) E vl_X2_107 dX2_hearFines_18 rfl [0, 1, 2, 3, 4, 5, 6, 7, 8, 9, 10, 11] 3 0 hW hA hl rfl rfl rfl rfl ⟨by decide, by decide⟩ ⟨by decide, by decide⟩ (Nat.le_of_ble_eq_true rfl) rfl (fun _ => rfl) (fun _ => rfl) (fun r u H locs hp hW => ?_)
        cases hp
        have hW : WD k A s.heap (wCourt k a_th th_j2 ++ wRules k a_p1 p1_0) H locs := hW
        refine lv_if_eq (tgt := 36) E.hx E.hb dX2_hearFines_21 (by decide) (fun hc => ?_) (fun hc => ?_)
        · have hf := oT hc hf
          refine lv_iconst (v := (0 : Int32)) E.hx E.hb dX2_hearFines_36 ic_0 ?_
          obtain ⟨y_2, hg, hf⟩ := ob hf
          obtain ⟨th_3, eth_3, hf⟩ := oL hf
          refine k_callVv (As := [.int w2_j2, .int (5 : Int32), .int (0 : Int32)]) (rest := []) (ws2 := fun u => wCourt k a_th (sA th_j2 12 (u)) ++ wRules k a_p1 p1_0) (c_X6_set n l k (fun j => a_th (5 + j)) (8 : Int32) 640 (th_j2.2.1 12) w2_j2 (5 : Int32) (0 : Int32) y_2 hg) E vl_X2_93 dX2_hearFines_37 rfl [5, 6] 7 5 hW hA hl rfl rfl rfl rfl ⟨by decide, by decide⟩ ⟨by decide, by decide⟩ (Nat.le_of_ble_eq_true rfl) rfl (fun _ => rfl) (fun _ => rfl) (fun u H locs hp hW => ?_)
          cases hp
          have hW : WD k A s.heap (wCourt k a_th th_3 ++ wRules k a_p1 p1_0) H locs := by rw [eth_3]; exact hW
          obtain ⟨v2_4, ev2_4, hf⟩ := oL hf
          refine k_iinc (lv' := [(2, .int v2_4), (0, .ref (a_th 0)), (1, .ref (a_p1 0))]) E hl 2 dX2_hearFines_40 rfl (ev2_4.trans (congrArg (fun z => w2_j2 + z) ic_1.symm)) (by decide) rfl (fun ls hl => ?_)
          refine lv_goto (tgt := 2) E.hx E.hb dX2_hearFines_43 (by decide) ?_
          exact ih_2 th_3 v2_4 _ _ _ hW (lv_sub hl [1, 2, 0] rfl) hf
        · have hf := oF hc hf
          refine k_aload_n E hl 0 dX2_hearFines_24 rfl ?_
          refine k_iload_n E hl 2 dX2_hearFines_25 rfl ?_
          refine k_aload_n E hl 1 dX2_hearFines_26 rfl ?_
          refine gf_X2_166 E hW 12 rfl rfl dX2_hearFines_27 ?_
          obtain ⟨th_5, r_6, hg, hf⟩ := ob2 hf
          refine k_callVi (As := [.int w2_j2, .int (p1_0.1 3)]) (rest := [.int (5 : Int32), .int w2_j2, .ref (a_th 5)]) (ws2 := fun u => wCourt k a_th (u) ++ wRules k a_p1 p1_0) (c_X2_fineFor n l k a_th th_j2 w2_j2 (p1_0.1 3) (th_5, r_6) hg) E vl_X2_169 dX2_hearFines_30 rfl [0, 1, 2, 3, 4, 5, 6, 7, 8, 9, 10, 11] 3 0 hW hA hl rfl rfl rfl rfl ⟨by decide, by decide⟩ ⟨by decide, by decide⟩ (Nat.le_of_ble_eq_true rfl) rfl (fun _ => rfl) (fun _ => rfl) (fun r u H locs hp hW => ?_)
          cases hp
          have hW : WD k A s.heap (wCourt k a_th th_5 ++ wRules k a_p1 p1_0) H locs := hW
          refine lv_goto (tgt := 37) E.hx E.hb dX2_hearFines_33 (by decide) ?_
          obtain ⟨y_7, hg, hf⟩ := ob hf
          obtain ⟨th_8, eth_8, hf⟩ := oL hf
          refine k_callVv (As := [.int w2_j2, .int (5 : Int32), .int r_6]) (rest := []) (ws2 := fun u => wCourt k a_th (sA th_5 12 (u)) ++ wRules k a_p1 p1_0) (c_X6_set n l k (fun j => a_th (5 + j)) (8 : Int32) 640 (th_5.2.1 12) w2_j2 (5 : Int32) r_6 y_7 hg) E vl_X2_93 dX2_hearFines_37 rfl [5, 6] 7 5 hW hA hl rfl rfl rfl rfl ⟨by decide, by decide⟩ ⟨by decide, by decide⟩ (Nat.le_of_ble_eq_true rfl) rfl (fun _ => rfl) (fun _ => rfl) (fun u H locs hp hW => ?_)
          cases hp
          have hW : WD k A s.heap (wCourt k a_th th_8 ++ wRules k a_p1 p1_0) H locs := by rw [eth_8]; exact hW
          obtain ⟨v2_9, ev2_9, hf⟩ := oL hf
          refine k_iinc (lv' := [(2, .int v2_9), (0, .ref (a_th 0)), (1, .ref (a_p1 0))]) E hl 2 dX2_hearFines_40 rfl (ev2_9.trans (congrArg (fun z => w2_j2 + z) ic_1.symm)) (by decide) rfl (fun ls hl => ?_)
          refine lv_goto (tgt := 2) E.hx E.hb dX2_hearFines_43 (by decide) ?_
          exact ih_2 th_8 v2_9 _ _ _ hW (lv_sub hl [1, 2, 0] rfl) hf
  exact L_2 n th_0 (0 : Int32) _ _ _ hW (lv_sub hl [1, 2, 0] rfl) hf
def s_X2_takeBack_4 (n : Nat) (rc_4 : (OS) → (Int32) → (Int32) → Option (OS)) (th_j4 : OS) (w2_j4 : Int32) (w3_j4 : Int32) : Option (OS) :=
  if (th_j4.1 3) ≤ w3_j4 then (
  some th_j4) else (
  if w2_j4 ≤ 0 then (
  some th_j4) else (
  bnd (f_X2_earliestBroken n th_j4) (fun (r_1 : Int32) =>
  bnd (f_X6_get n (8 : Int32) 640 (th_j4.2.1 12) r_1 (1 : Int32)) (fun (r_2 : Int32) =>
  Let (if r_2 < w2_j4 then r_2 else w2_j4) (fun v5_3 : Int32 =>
  bnd (f_X2_release n th_j4 r_1 v5_3) (fun (th_4 : OS) =>
  bnd (f_X6_add n (8 : Int32) 640 (th_4.2.1 12) r_1 (6 : Int32) v5_3) (fun (y_5 : Nat → Int32) =>
  Let (sA th_4 12 y_5) (fun th_6 : OS =>
  Let (sI th_6 8 ((th_6.1 8) + v5_3)) (fun th_7 : OS =>
  Let (w2_j4 - v5_3) (fun v2_8 : Int32 =>
  Let (w3_j4 + (1 : Int32)) (fun v3_9 : Int32 =>
  rc_4 th_7 v2_8 v3_9)))))))))))
def l_X2_takeBack_4 (n : Nat) : Nat → (OS) → (Int32) → (Int32) → Option (OS)
  | 0 => fun _ _ _ => none
  | N + 1 => s_X2_takeBack_4 n (l_X2_takeBack_4 n N)
def f_X2_takeBack (n : Nat) (th_0 : OS) (v1_0 : Int32) : Option (OS) :=
  l_X2_takeBack_4 n n th_0 v1_0 (0 : Int32)
set_option maxHeartbeats 4000000 in
set_option maxRecDepth 100000 in
theorem c_X2_takeBack (n : Nat) (l : Launch) (k : KT) (a_th : Nat → Nat) (th_0 : OS) (v1_0 : Int32) (res : (OS)) (hf : f_X2_takeBack n th_0 v1_0 = some res) : CG l k yX2_takeBack cX2_takeBack 6 none 2 0 0 48 [.ref (a_th 0), .int v1_0] (wCourt k a_th th_0) (Qv k (fun u : OS => wCourt k a_th u) (fun u : OS => res = u)) := by
  refine CG.ofV (by decide) (Nat.le_of_ble_eq_true rfl) (fun p e s m args below meth c A Q E hnm hW hA hret ls hl => ?_)
  have hl : lv_has ls 6 [(0, .ref (a_th 0)), (1, .int v1_0)] := hl
  unfold f_X2_takeBack at hf
  refine k_iload_n E hl 1 dX2_takeBack_0 rfl ?_
  refine k_istore_n (lv' := [(2, .int v1_0), (0, .ref (a_th 0)), (1, .int v1_0)]) E rfl hl dX2_takeBack_1 rfl (by decide) rfl (fun ls hl => ?_)
  refine lv_iconst (v := (0 : Int32)) E.hx E.hb dX2_takeBack_2 ic_0 ?_
  refine k_istore_n (lv' := [(3, .int (0 : Int32)), (2, .int v1_0), (0, .ref (a_th 0)), (1, .int v1_0)]) E rfl hl dX2_takeBack_3 rfl (by decide) rfl (fun ls hl => ?_)
  have L_4 : ∀ (N_4 : Nat) (th_j4 : OS) (w2_j4 : Int32) (w3_j4 : Int32) (H : Heap) (locs : List Loc) (ls : Array Slot) (hW : WD k A s.heap (wCourt k a_th th_j4) H locs) (hl : lv_has ls 6 [(0, .ref (a_th 0)), (2, .int w2_j4), (3, .int w3_j4)]) (hf : l_X2_takeBack_4 n N_4 th_j4 w2_j4 w3_j4 = some res), W p l e { frames := 2, cells := 0, slots := 0, locals := 48 } s m args below meth c H locs 0 0 Q (F0 m 4 ls []) := by
    intro N_4
    induction N_4 with
    | zero => intro th_j4 w2_j4 w3_j4 H locs ls hW hl hf; exact o0 hf
    | succ N_4 ih_4 =>
      intro th_j4 w2_j4 w3_j4 H locs ls hW hl hf
      have hf : s_X2_takeBack_4 n  (l_X2_takeBack_4 n N_4) th_j4 w2_j4 w3_j4 = some res := hf
      unfold s_X2_takeBack_4 at hf
      refine k_iload_n E hl 2 dX2_takeBack_4 rfl ?_
      refine k_aload_n E hl 0 dX2_takeBack_5 rfl ?_
      refine gf_X2_21 E hW 0 rfl rfl dX2_takeBack_6 ?_
      refine lv_icmp_ge (tgt := 81) E.hx E.hb dX2_takeBack_9 (by decide) (fun hc => ?_) (fun hc => ?_)
      · have hf := oT hc hf
        exact hret th_j4 _ _ _ _ _ _ hW (Option.some.inj hf).symm (by decide) (by decide) dX2_takeBack_81
      · have hf := oF hc hf
        refine k_iload_n E hl 1 dX2_takeBack_12 rfl ?_
        refine lv_if_le (tgt := 81) E.hx E.hb dX2_takeBack_13 (by decide) (fun hc => ?_) (fun hc => ?_)
        · have hf := oT hc hf
          exact hret th_j4 _ _ _ _ _ _ hW (Option.some.inj hf).symm (by decide) (by decide) dX2_takeBack_81
        · have hf := oF hc hf
          refine k_aload_n E hl 0 dX2_takeBack_16 rfl ?_
          obtain ⟨r_1, hg, hf⟩ := ob hf
          refine k_callVi (As := []) (rest := []) (ws2 := fun u => wCourt k a_th th_j4) (c_X2_earliestBroken n l k a_th th_j4 r_1 hg) E vl_X2_201 dX2_takeBack_17 rfl [0, 1, 2, 3, 4, 5, 6, 7, 8, 9, 10, 11] 3 0 hW hA hl rfl rfl rfl rfl ⟨by decide, by decide⟩ ⟨by decide, by decide⟩ (Nat.le_of_ble_eq_true rfl) rfl (fun _ => rfl) (fun _ => rfl) (fun r u H locs hp hW => ?_)
          cases hp
          have hW : WD k A s.heap (wCourt k a_th th_j4) H locs := hW
          refine k_istore (lv' := [(4, .int r_1), (0, .ref (a_th 0)), (2, .int w2_j4), (3, .int w3_j4)]) E rfl hl dX2_takeBack_20 (by decide) rfl (fun ls hl => ?_)
          refine k_iload_n E hl 2 dX2_takeBack_22 rfl ?_
          refine k_aload_n E hl 1 dX2_takeBack_23 rfl ?_
          refine gf_X2_56 E hW 0 rfl rfl dX2_takeBack_24 ?_
          refine k_iload E hl 0 dX2_takeBack_27 rfl ?_
          refine lv_iconst (v := (1 : Int32)) E.hx E.hb dX2_takeBack_29 ic_1 ?_
          obtain ⟨r_2, hg, hf⟩ := ob hf
          refine k_callVi (As := [.int r_1, .int (1 : Int32)]) (rest := [.int w2_j4]) (ws2 := fun u => wCourt k a_th th_j4) (c_X6_get n l k (fun j => a_th (5 + j)) (8 : Int32) 640 (th_j4.2.1 12) r_1 (1 : Int32) r_2 hg) E vl_X2_100 dX2_takeBack_30 rfl [5, 6] 7 5 hW hA hl rfl rfl rfl rfl ⟨by decide, by decide⟩ ⟨by decide, by decide⟩ (Nat.le_of_ble_eq_true rfl) rfl (fun _ => rfl) (fun _ => rfl) (fun r u H locs hp hW => ?_)
          cases hp
          have hW : WD k A s.heap (wCourt k a_th th_j4) H locs := hW
          refine va_mmin E.hx E.hb (E.hml.trans hl.1.symm) E.ho (E.w tm_580 rfl) (E.w tm_537 rfl) (E.w tm_35 rfl) (E.w tm_538 rfl) (by decide) (Nat.le_of_ble_eq_true rfl) (by decide) (by decide) dX2_takeBack_33 ?_
          obtain ⟨v5_3, ev5_3, hf⟩ := oL hf
          refine k_istore (lv' := [(5, .int v5_3), (4, .int r_1), (0, .ref (a_th 0)), (2, .int w2_j4), (3, .int w3_j4)]) E ev5_3 hl dX2_takeBack_36 (by decide) rfl (fun ls hl => ?_)
          refine k_aload_n E hl 2 dX2_takeBack_38 rfl ?_
          refine k_iload E hl 1 dX2_takeBack_39 rfl ?_
          refine k_iload E hl 0 dX2_takeBack_41 rfl ?_
          obtain ⟨th_4, hg, hf⟩ := ob hf
          refine k_callVv (As := [.int r_1, .int v5_3]) (rest := []) (ws2 := fun u => wCourt k a_th (u)) (c_X2_release n l k a_th th_j4 r_1 v5_3 th_4 hg) E vl_X2_204 dX2_takeBack_43 rfl [0, 1, 2, 3, 4, 5, 6, 7, 8, 9, 10, 11] 3 0 hW hA hl rfl rfl rfl rfl ⟨by decide, by decide⟩ ⟨by decide, by decide⟩ (Nat.le_of_ble_eq_true rfl) rfl (fun _ => rfl) (fun _ => rfl) (fun u H locs hp hW => ?_)
          cases hp
          have hW : WD k A s.heap (wCourt k a_th th_4) H locs := hW
          refine k_aload_n E hl 2 dX2_takeBack_46 rfl ?_
          refine gf_X2_56 E hW 0 rfl rfl dX2_takeBack_47 ?_
          refine k_iload E hl 1 dX2_takeBack_50 rfl ?_
          refine lv_bipush (v := (6 : Int32)) E.hx E.hb dX2_takeBack_52 bp_6 ?_
          refine k_iload E hl 0 dX2_takeBack_54 rfl ?_
          obtain ⟨y_5, hg, hf⟩ := ob hf
          obtain ⟨th_6, eth_6, hf⟩ := oL hf
          refine k_callVv (As := [.int r_1, .int (6 : Int32), .int v5_3]) (rest := []) (ws2 := fun u => wCourt k a_th (sA th_4 12 (u))) (c_X6_add n l k (fun j => a_th (5 + j)) (8 : Int32) 640 (th_4.2.1 12) r_1 (6 : Int32) v5_3 y_5 hg) E vl_X2_97 dX2_takeBack_56 rfl [5, 6] 7 5 hW hA hl rfl rfl rfl rfl ⟨by decide, by decide⟩ ⟨by decide, by decide⟩ (Nat.le_of_ble_eq_true rfl) rfl (fun _ => rfl) (fun _ => rfl) (fun u H locs hp hW => ?_)
          cases hp
          have hW : WD k A s.heap (wCourt k a_th th_6) H locs := by rw [eth_6]; exact hW
          refine k_aload_n E hl 2 dX2_takeBack_59 rfl ?_
          refine lv_dup E.hx E.hb dX2_takeBack_60 rfl ?_
          refine gf_X2_36 E hW 0 rfl rfl dX2_takeBack_61 ?_
          refine k_iload E hl 0 dX2_takeBack_64 rfl ?_
          refine lv_iadd E.hx E.hb dX2_takeBack_66 ?_
          obtain ⟨th_7, eth_7, hf⟩ := oL hf
          refine pf_X2_36 (ws2 := wCourt k a_th th_7) E hW 0 rfl rfl rfl (Nat.le_of_ble_eq_true rfl) dX2_takeBack_67 (by rw [eth_7]; rfl) (fun H locs hW => ?_)
          refine k_iload_n E hl 3 dX2_takeBack_70 rfl ?_
          refine k_iload E hl 0 dX2_takeBack_71 rfl ?_
          refine lv_isub E.hx E.hb dX2_takeBack_73 ?_
          obtain ⟨v2_8, ev2_8, hf⟩ := oL hf
          refine k_istore_n (lv' := [(2, .int v2_8), (5, .int v5_3), (4, .int r_1), (0, .ref (a_th 0)), (3, .int w3_j4)]) E ev2_8 hl dX2_takeBack_74 rfl (by decide) rfl (fun ls hl => ?_)
          obtain ⟨v3_9, ev3_9, hf⟩ := oL hf
          refine k_iinc (lv' := [(3, .int v3_9), (2, .int v2_8), (5, .int v5_3), (4, .int r_1), (0, .ref (a_th 0))]) E hl 4 dX2_takeBack_75 rfl (ev3_9.trans (congrArg (fun z => w3_j4 + z) ic_1.symm)) (by decide) rfl (fun ls hl => ?_)
          refine lv_goto (tgt := 4) E.hx E.hb dX2_takeBack_78 (by decide) ?_
          exact ih_4 th_7 v2_8 v3_9 _ _ _ hW (lv_sub hl [4, 1, 0] rfl) hf
  exact L_4 n th_0 v1_0 (0 : Int32) _ _ _ hW (lv_sub hl [2, 1, 0] rfl) hf
def f_X2_putOff (n : Nat) (th_0 : OS) (v1_0 : Int32) (v2_0 : Int32) : Option (OS) :=
  bnd (f_X6_add n (7 : Int32) 420 (th_0.2.1 13) v1_0 (4 : Int32) (1 : Int32)) (fun (y_1 : Nat → Int32) =>
  Let (sA th_0 13 y_1) (fun th_2 : OS =>
  bnd (f_X6_get n (7 : Int32) 420 (th_2.2.1 13) v1_0 (4 : Int32)) (fun (r_3 : Int32) =>
  if r_3 < v2_0 then (
  some th_2) else (
  bnd (f_X6_set n (7 : Int32) 420 (th_2.2.1 13) v1_0 (3 : Int32) (2 : Int32)) (fun (y_4 : Nat → Int32) =>
  Let (sA th_2 13 y_4) (fun th_5 : OS =>
  some th_5))))))
set_option maxHeartbeats 4000000 in
set_option maxRecDepth 100000 in
theorem c_X2_putOff (n : Nat) (l : Launch) (k : KT) (a_th : Nat → Nat) (th_0 : OS) (v1_0 : Int32) (v2_0 : Int32) (res : (OS)) (hf : f_X2_putOff n th_0 v1_0 v2_0 = some res) : CG l k yX2_putOff cX2_putOff 3 none 1 0 0 24 [.ref (a_th 0), .int v1_0, .int v2_0] (wCourt k a_th th_0) (Qv k (fun u : OS => wCourt k a_th u) (fun u : OS => res = u)) := by
  refine CG.ofV (by decide) (Nat.le_of_ble_eq_true rfl) (fun p e s m args below meth c A Q E hnm hW hA hret ls hl => ?_)
  have hl : lv_has ls 3 [(0, .ref (a_th 0)), (1, .int v1_0), (2, .int v2_0)] := hl
  unfold f_X2_putOff at hf
  refine k_aload_n E hl 0 dX2_putOff_0 rfl ?_
  refine gf_X2_59 E hW 0 rfl rfl dX2_putOff_1 ?_
  refine k_iload_n E hl 1 dX2_putOff_4 rfl ?_
  refine lv_iconst (v := (4 : Int32)) E.hx E.hb dX2_putOff_5 ic_4 ?_
  refine lv_iconst (v := (1 : Int32)) E.hx E.hb dX2_putOff_6 ic_1 ?_
  obtain ⟨y_1, hg, hf⟩ := ob hf
  obtain ⟨th_2, eth_2, hf⟩ := oL hf
  refine k_callVv (As := [.int v1_0, .int (4 : Int32), .int (1 : Int32)]) (rest := []) (ws2 := fun u => wCourt k a_th (sA th_0 13 (u))) (c_X6_add n l k (fun j => a_th (7 + j)) (7 : Int32) 420 (th_0.2.1 13) v1_0 (4 : Int32) (1 : Int32) y_1 hg) E vl_X2_97 dX2_putOff_7 rfl [7, 8] 7 7 hW hA hl rfl rfl rfl rfl ⟨by decide, by decide⟩ ⟨by decide, by decide⟩ (Nat.le_of_ble_eq_true rfl) rfl (fun _ => rfl) (fun _ => rfl) (fun u H locs hp hW => ?_)
  cases hp
  have hW : WD k A s.heap (wCourt k a_th th_2) H locs := by rw [eth_2]; exact hW
  refine k_aload_n E hl 0 dX2_putOff_10 rfl ?_
  refine gf_X2_59 E hW 0 rfl rfl dX2_putOff_11 ?_
  refine k_iload_n E hl 1 dX2_putOff_14 rfl ?_
  refine lv_iconst (v := (4 : Int32)) E.hx E.hb dX2_putOff_15 ic_4 ?_
  obtain ⟨r_3, hg, hf⟩ := ob hf
  refine k_callVi (As := [.int v1_0, .int (4 : Int32)]) (rest := []) (ws2 := fun u => wCourt k a_th th_2) (c_X6_get n l k (fun j => a_th (7 + j)) (7 : Int32) 420 (th_2.2.1 13) v1_0 (4 : Int32) r_3 hg) E vl_X2_100 dX2_putOff_16 rfl [7, 8] 7 7 hW hA hl rfl rfl rfl rfl ⟨by decide, by decide⟩ ⟨by decide, by decide⟩ (Nat.le_of_ble_eq_true rfl) rfl (fun _ => rfl) (fun _ => rfl) (fun r u H locs hp hW => ?_)
  cases hp
  have hW : WD k A s.heap (wCourt k a_th th_2) H locs := hW
  refine k_iload_n E hl 2 dX2_putOff_19 rfl ?_
  refine lv_icmp_lt (tgt := 33) E.hx E.hb dX2_putOff_20 (by decide) (fun hc => ?_) (fun hc => ?_)
  · have hf := oT hc hf
    exact hret th_2 _ _ _ _ _ _ hW (Option.some.inj hf).symm (by decide) (by decide) dX2_putOff_33
  · have hf := oF hc hf
    refine k_aload_n E hl 0 dX2_putOff_23 rfl ?_
    refine gf_X2_59 E hW 0 rfl rfl dX2_putOff_24 ?_
    refine k_iload_n E hl 1 dX2_putOff_27 rfl ?_
    refine lv_iconst (v := (3 : Int32)) E.hx E.hb dX2_putOff_28 ic_3 ?_
    refine lv_iconst (v := (2 : Int32)) E.hx E.hb dX2_putOff_29 ic_2 ?_
    obtain ⟨y_4, hg, hf⟩ := ob hf
    obtain ⟨th_5, eth_5, hf⟩ := oL hf
    refine k_callVv (As := [.int v1_0, .int (3 : Int32), .int (2 : Int32)]) (rest := []) (ws2 := fun u => wCourt k a_th (sA th_2 13 (u))) (c_X6_set n l k (fun j => a_th (7 + j)) (7 : Int32) 420 (th_2.2.1 13) v1_0 (3 : Int32) (2 : Int32) y_4 hg) E vl_X2_93 dX2_putOff_30 rfl [7, 8] 7 7 hW hA hl rfl rfl rfl rfl ⟨by decide, by decide⟩ ⟨by decide, by decide⟩ (Nat.le_of_ble_eq_true rfl) rfl (fun _ => rfl) (fun _ => rfl) (fun u H locs hp hW => ?_)
    cases hp
    have hW : WD k A s.heap (wCourt k a_th th_5) H locs := by rw [eth_5]; exact hW
    exact hret th_5 _ _ _ _ _ _ hW (Option.some.inj hf).symm (by decide) (by decide) dX2_putOff_33
def j_X2_meets_67 (n : Nat) (v1_0 : Int32) (th_j67 : OS) (w2_j67 : Int32) (w3_j67 : Int32) : Option (OS × Int32) :=
  bnd (f_X6_get n (7 : Int32) 420 (th_j67.2.1 13) v1_0 (2 : Int32)) (fun (r_4 : Int32) =>
  bnd2 (f_X2_lend n th_j67 w2_j67 w3_j67 ((th_j67.1 0) + r_4) v1_0) (fun (th_5 : OS) (r_6 : Int32) =>
  bnd (f_X6_set n (7 : Int32) 420 (th_5.2.1 13) v1_0 (3 : Int32) (1 : Int32)) (fun (y_7 : Nat → Int32) =>
  Let (sA th_5 13 y_7) (fun th_8 : OS =>
  bnd (f_X6_set n (7 : Int32) 420 (th_8.2.1 13) v1_0 (5 : Int32) r_6) (fun (y_9 : Nat → Int32) =>
  Let (sA th_8 13 y_9) (fun th_10 : OS =>
  some (th_10, (1 : Int32))))))))
def f_X2_meets (n : Nat) (th_0 : OS) (v1_0 : Int32) : Option (OS × Int32) :=
  bnd (f_X6_get n (7 : Int32) 420 (th_0.2.1 13) v1_0 (0 : Int32)) (fun (r_1 : Int32) =>
  bnd (f_X6_get n (7 : Int32) 420 (th_0.2.1 13) v1_0 (1 : Int32)) (fun (r_2 : Int32) =>
  bnd (f_X6_get n (5 : Int32) 40 (th_0.2.1 11) r_1 (1 : Int32)) (fun (r_3 : Int32) =>
  if r_3 ≤ 0 then (
  if r_2 ≤ (th_0.1 2) then (
  j_X2_meets_67 n v1_0 th_0 r_1 r_2) else (
  bnd (f_X2_brokenPages n th_0) (fun (r_11 : Int32) =>
  if (r_2 - (th_0.1 2)) ≤ r_11 then (
  bnd (f_X2_takeBack n th_0 (r_2 - (th_0.1 2))) (fun (th_12 : OS) =>
  j_X2_meets_67 n v1_0 th_12 r_1 r_2)) else (
  some (th_0, (0 : Int32)))))) else (
  some (th_0, (0 : Int32))))))
set_option maxHeartbeats 4000000 in
set_option maxRecDepth 100000 in
theorem c_X2_meets (n : Nat) (l : Launch) (k : KT) (a_th : Nat → Nat) (th_0 : OS) (v1_0 : Int32) (res : (OS × Int32)) (hf : f_X2_meets n th_0 v1_0 = some res) : CG l k yX2_meets cX2_meets 5 (some .boolean) 3 0 0 73 [.ref (a_th 0), .int v1_0] (wCourt k a_th th_0) (Qi k (fun u : OS => wCourt k a_th u) (fun (r : Int32) (u : OS) => res = (u, r))) := by
  refine CG.ofI (by decide) (Nat.le_of_ble_eq_true rfl) (fun p e s m args below meth c A Q E hnm hW hA hret ls hl => ?_)
  have hl : lv_has ls 5 [(0, .ref (a_th 0)), (1, .int v1_0)] := hl
  unfold f_X2_meets at hf
  refine k_aload_n E hl 0 dX2_meets_0 rfl ?_
  refine gf_X2_59 E hW 0 rfl rfl dX2_meets_1 ?_
  refine k_iload_n E hl 1 dX2_meets_4 rfl ?_
  refine lv_iconst (v := (0 : Int32)) E.hx E.hb dX2_meets_5 ic_0 ?_
  obtain ⟨r_1, hg, hf⟩ := ob hf
  refine k_callVi (As := [.int v1_0, .int (0 : Int32)]) (rest := []) (ws2 := fun u => wCourt k a_th th_0) (c_X6_get n l k (fun j => a_th (7 + j)) (7 : Int32) 420 (th_0.2.1 13) v1_0 (0 : Int32) r_1 hg) E vl_X2_100 dX2_meets_6 rfl [7, 8] 7 7 hW hA hl rfl rfl rfl rfl ⟨by decide, by decide⟩ ⟨by decide, by decide⟩ (Nat.le_of_ble_eq_true rfl) rfl (fun _ => rfl) (fun _ => rfl) (fun r u H locs hp hW => ?_)
  cases hp
  have hW : WD k A s.heap (wCourt k a_th th_0) H locs := hW
  refine k_istore_n (lv' := [(2, .int r_1), (0, .ref (a_th 0)), (1, .int v1_0)]) E rfl hl dX2_meets_9 rfl (by decide) rfl (fun ls hl => ?_)
  refine k_aload_n E hl 1 dX2_meets_10 rfl ?_
  refine gf_X2_59 E hW 0 rfl rfl dX2_meets_11 ?_
  refine k_iload_n E hl 2 dX2_meets_14 rfl ?_
  refine lv_iconst (v := (1 : Int32)) E.hx E.hb dX2_meets_15 ic_1 ?_
  obtain ⟨r_2, hg, hf⟩ := ob hf
  refine k_callVi (As := [.int v1_0, .int (1 : Int32)]) (rest := []) (ws2 := fun u => wCourt k a_th th_0) (c_X6_get n l k (fun j => a_th (7 + j)) (7 : Int32) 420 (th_0.2.1 13) v1_0 (1 : Int32) r_2 hg) E vl_X2_100 dX2_meets_16 rfl [7, 8] 7 7 hW hA hl rfl rfl rfl rfl ⟨by decide, by decide⟩ ⟨by decide, by decide⟩ (Nat.le_of_ble_eq_true rfl) rfl (fun _ => rfl) (fun _ => rfl) (fun r u H locs hp hW => ?_)
  cases hp
  have hW : WD k A s.heap (wCourt k a_th th_0) H locs := hW
  refine k_istore_n (lv' := [(3, .int r_2), (2, .int r_1), (0, .ref (a_th 0)), (1, .int v1_0)]) E rfl hl dX2_meets_19 rfl (by decide) rfl (fun ls hl => ?_)
  refine k_aload_n E hl 2 dX2_meets_20 rfl ?_
  refine gf_X2_52 E hW 0 rfl rfl dX2_meets_21 ?_
  refine k_iload_n E hl 1 dX2_meets_24 rfl ?_
  refine lv_iconst (v := (1 : Int32)) E.hx E.hb dX2_meets_25 ic_1 ?_
  obtain ⟨r_3, hg, hf⟩ := ob hf
  refine k_callVi (As := [.int r_1, .int (1 : Int32)]) (rest := []) (ws2 := fun u => wCourt k a_th th_0) (c_X6_get n l k (fun j => a_th (3 + j)) (5 : Int32) 40 (th_0.2.1 11) r_1 (1 : Int32) r_3 hg) E vl_X2_100 dX2_meets_26 rfl [3, 4] 7 3 hW hA hl rfl rfl rfl rfl ⟨by decide, by decide⟩ ⟨by decide, by decide⟩ (Nat.le_of_ble_eq_true rfl) rfl (fun _ => rfl) (fun _ => rfl) (fun r u H locs hp hW => ?_)
  cases hp
  have hW : WD k A s.heap (wCourt k a_th th_0) H locs := hW
  refine lv_if_le (tgt := 34) E.hx E.hb dX2_meets_29 (by decide) (fun hc => ?_) (fun hc => ?_)
  · have hf := oT hc hf
    refine k_iload_n E hl 0 dX2_meets_34 rfl ?_
    refine k_aload_n E hl 2 dX2_meets_35 rfl ?_
    refine gf_X2_18 E hW 0 rfl rfl dX2_meets_36 ?_
    have J_67 : ∀ (th_j67 : OS) (w2_j67 : Int32) (w3_j67 : Int32) (H : Heap) (locs : List Loc) (ls : Array Slot) (hW : WD k A s.heap (wCourt k a_th th_j67) H locs) (hl : lv_has ls 5 [(0, .ref (a_th 0)), (1, .int v1_0), (2, .int w2_j67), (3, .int w3_j67)]) (hf : j_X2_meets_67 n v1_0 th_j67 w2_j67 w3_j67 = some res), W p l e { frames := 3, cells := 0, slots := 0, locals := 73 } s m args below meth c H locs 0 0 Q (F0 m 67 ls []) := by
      intro th_j67 w2_j67 w3_j67 H locs ls hW hl hf
      unfold j_X2_meets_67 at hf
      refine k_aload_n E hl 0 dX2_meets_67 rfl ?_
      refine k_iload_n E hl 2 dX2_meets_68 rfl ?_
      refine k_iload_n E hl 3 dX2_meets_69 rfl ?_
      refine k_aload_n E hl 0 dX2_meets_70 rfl ?_
      refine gf_X2_9 E hW 0 rfl rfl dX2_meets_71 ?_
      refine k_aload_n E hl 0 dX2_meets_74 rfl ?_
      refine gf_X2_59 E hW 0 rfl rfl dX2_meets_75 ?_
      refine k_iload_n E hl 1 dX2_meets_78 rfl ?_
      refine lv_iconst (v := (2 : Int32)) E.hx E.hb dX2_meets_79 ic_2 ?_
      obtain ⟨r_4, hg, hf⟩ := ob hf
      refine k_callVi (As := [.int v1_0, .int (2 : Int32)]) (rest := [.int (th_j67.1 0), .int w3_j67, .int w2_j67, .ref (a_th 0)]) (ws2 := fun u => wCourt k a_th th_j67) (c_X6_get n l k (fun j => a_th (7 + j)) (7 : Int32) 420 (th_j67.2.1 13) v1_0 (2 : Int32) r_4 hg) E vl_X2_100 dX2_meets_80 rfl [7, 8] 7 7 hW hA hl rfl rfl rfl rfl ⟨by decide, by decide⟩ ⟨by decide, by decide⟩ (Nat.le_of_ble_eq_true rfl) rfl (fun _ => rfl) (fun _ => rfl) (fun r u H locs hp hW => ?_)
      cases hp
      have hW : WD k A s.heap (wCourt k a_th th_j67) H locs := hW
      refine lv_iadd E.hx E.hb dX2_meets_83 ?_
      refine k_iload_n E hl 1 dX2_meets_84 rfl ?_
      obtain ⟨th_5, r_6, hg, hf⟩ := ob2 hf
      refine k_callVi (As := [.int w2_j67, .int w3_j67, .int ((th_j67.1 0) + r_4), .int v1_0]) (rest := []) (ws2 := fun u => wCourt k a_th (u)) (c_X2_lend n l k a_th th_j67 w2_j67 w3_j67 ((th_j67.1 0) + r_4) v1_0 (th_5, r_6) hg) E vl_X2_197 dX2_meets_85 rfl [0, 1, 2, 3, 4, 5, 6, 7, 8, 9, 10, 11] 3 0 hW hA hl rfl rfl rfl rfl ⟨by decide, by decide⟩ ⟨by decide, by decide⟩ (Nat.le_of_ble_eq_true rfl) rfl (fun _ => rfl) (fun _ => rfl) (fun r u H locs hp hW => ?_)
      cases hp
      have hW : WD k A s.heap (wCourt k a_th th_5) H locs := hW
      refine k_istore (lv' := [(4, .int r_6), (0, .ref (a_th 0)), (1, .int v1_0), (2, .int w2_j67), (3, .int w3_j67)]) E rfl hl dX2_meets_88 (by decide) rfl (fun ls hl => ?_)
      refine k_aload_n E hl 1 dX2_meets_90 rfl ?_
      refine gf_X2_59 E hW 0 rfl rfl dX2_meets_91 ?_
      refine k_iload_n E hl 2 dX2_meets_94 rfl ?_
      refine lv_iconst (v := (3 : Int32)) E.hx E.hb dX2_meets_95 ic_3 ?_
      refine lv_iconst (v := (1 : Int32)) E.hx E.hb dX2_meets_96 ic_1 ?_
      obtain ⟨y_7, hg, hf⟩ := ob hf
      obtain ⟨th_8, eth_8, hf⟩ := oL hf
      refine k_callVv (As := [.int v1_0, .int (3 : Int32), .int (1 : Int32)]) (rest := []) (ws2 := fun u => wCourt k a_th (sA th_5 13 (u))) (c_X6_set n l k (fun j => a_th (7 + j)) (7 : Int32) 420 (th_5.2.1 13) v1_0 (3 : Int32) (1 : Int32) y_7 hg) E vl_X2_93 dX2_meets_97 rfl [7, 8] 7 7 hW hA hl rfl rfl rfl rfl ⟨by decide, by decide⟩ ⟨by decide, by decide⟩ (Nat.le_of_ble_eq_true rfl) rfl (fun _ => rfl) (fun _ => rfl) (fun u H locs hp hW => ?_)
      cases hp
      have hW : WD k A s.heap (wCourt k a_th th_8) H locs := by rw [eth_8]; exact hW
      refine k_aload_n E hl 1 dX2_meets_100 rfl ?_
      refine gf_X2_59 E hW 0 rfl rfl dX2_meets_101 ?_
      refine k_iload_n E hl 2 dX2_meets_104 rfl ?_
      refine lv_iconst (v := (5 : Int32)) E.hx E.hb dX2_meets_105 ic_5 ?_
      refine k_iload E hl 0 dX2_meets_106 rfl ?_
      obtain ⟨y_9, hg, hf⟩ := ob hf
      obtain ⟨th_10, eth_10, hf⟩ := oL hf
      refine k_callVv (As := [.int v1_0, .int (5 : Int32), .int r_6]) (rest := []) (ws2 := fun u => wCourt k a_th (sA th_8 13 (u))) (c_X6_set n l k (fun j => a_th (7 + j)) (7 : Int32) 420 (th_8.2.1 13) v1_0 (5 : Int32) r_6 y_9 hg) E vl_X2_93 dX2_meets_108 rfl [7, 8] 7 7 hW hA hl rfl rfl rfl rfl ⟨by decide, by decide⟩ ⟨by decide, by decide⟩ (Nat.le_of_ble_eq_true rfl) rfl (fun _ => rfl) (fun _ => rfl) (fun u H locs hp hW => ?_)
      cases hp
      have hW : WD k A s.heap (wCourt k a_th th_10) H locs := by rw [eth_10]; exact hW
      refine lv_iconst (v := (1 : Int32)) E.hx E.hb dX2_meets_111 ic_1 ?_
      exact hret _ th_10 _ _ _ _ _ _ hW (Option.some.inj hf).symm (by decide) (by decide) (by decide) dX2_meets_112
    refine lv_icmp_le (tgt := 67) E.hx E.hb dX2_meets_39 (by decide) (fun hc => ?_) (fun hc => ?_)
    · have hf := oT hc hf
      exact J_67 th_0 r_1 r_2 _ _ _ hW (lv_sub hl [2, 3, 1, 0] rfl) hf
    · have hf := oF hc hf
      refine k_iload_n E hl 0 dX2_meets_42 rfl ?_
      refine k_aload_n E hl 2 dX2_meets_43 rfl ?_
      refine gf_X2_18 E hW 0 rfl rfl dX2_meets_44 ?_
      refine lv_isub E.hx E.hb dX2_meets_47 ?_
      refine k_aload_n E hl 2 dX2_meets_48 rfl ?_
      obtain ⟨r_11, hg, hf⟩ := ob hf
      refine k_callVi (As := []) (rest := [.int (r_2 - (th_0.1 2))]) (ws2 := fun u => wCourt k a_th th_0) (c_X2_brokenPages n l k a_th th_0 r_11 hg) E vl_X2_191 dX2_meets_49 rfl [0, 1, 2, 3, 4, 5, 6, 7, 8, 9, 10, 11] 3 0 hW hA hl rfl rfl rfl rfl ⟨by decide, by decide⟩ ⟨by decide, by decide⟩ (Nat.le_of_ble_eq_true rfl) rfl (fun _ => rfl) (fun _ => rfl) (fun r u H locs hp hW => ?_)
      cases hp
      have hW : WD k A s.heap (wCourt k a_th th_0) H locs := hW
      refine lv_icmp_le (tgt := 57) E.hx E.hb dX2_meets_52 (by decide) (fun hc => ?_) (fun hc => ?_)
      · have hf := oT hc hf
        refine k_aload_n E hl 2 dX2_meets_57 rfl ?_
        refine k_iload_n E hl 0 dX2_meets_58 rfl ?_
        refine k_aload_n E hl 2 dX2_meets_59 rfl ?_
        refine gf_X2_18 E hW 0 rfl rfl dX2_meets_60 ?_
        refine lv_isub E.hx E.hb dX2_meets_63 ?_
        obtain ⟨th_12, hg, hf⟩ := ob hf
        refine k_callVv (As := [.int (r_2 - (th_0.1 2))]) (rest := []) (ws2 := fun u => wCourt k a_th (u)) (c_X2_takeBack n l k a_th th_0 (r_2 - (th_0.1 2)) th_12 hg) E vl_X2_194 dX2_meets_64 rfl [0, 1, 2, 3, 4, 5, 6, 7, 8, 9, 10, 11] 3 0 hW hA hl rfl rfl rfl rfl ⟨by decide, by decide⟩ ⟨by decide, by decide⟩ (Nat.le_of_ble_eq_true rfl) rfl (fun _ => rfl) (fun _ => rfl) (fun u H locs hp hW => ?_)
        cases hp
        have hW : WD k A s.heap (wCourt k a_th th_12) H locs := hW
        exact J_67 th_12 r_1 r_2 _ _ _ hW (lv_sub hl [2, 3, 1, 0] rfl) hf
      · have hf := oF hc hf
        refine lv_iconst (v := (0 : Int32)) E.hx E.hb dX2_meets_55 ic_0 ?_
        exact hret _ th_0 _ _ _ _ _ _ hW (Option.some.inj hf).symm (by decide) (by decide) (by decide) dX2_meets_56
  · have hf := oF hc hf
    refine lv_iconst (v := (0 : Int32)) E.hx E.hb dX2_meets_32 ic_0 ?_
    exact hret _ th_0 _ _ _ _ _ _ hW (Option.some.inj hf).symm (by decide) (by decide) (by decide) dX2_meets_33
def s_X2_hearClaims_10 (n : Nat) (p1_0 : OS) (w2_j10 : Int32) (rc_10 : (OS) → (Int32) → (Int32) → Option (OS × Int32)) (th_j10 : OS) (w3_j10 : Int32) (w4_j10 : Int32) : Option (OS × Int32) :=
  if w2_j10 ≤ w4_j10 then (
  some (th_j10, w3_j10)) else (
  bnd (f_X2_inLine n th_j10 w4_j10) (fun (r_3 : Int32) =>
  bnd2 (f_X2_meets n th_j10 r_3) (fun (th_4 : OS) (r_5 : Int32) =>
  if r_5 = 0 then (
  bnd (f_X2_putOff n th_4 r_3 (p1_0.1 5)) (fun (th_6 : OS) =>
  Let (w4_j10 + (1 : Int32)) (fun v4_7 : Int32 =>
  rc_10 th_6 w3_j10 v4_7))) else (
  Let (w3_j10 + (1 : Int32)) (fun v3_8 : Int32 =>
  Let (w4_j10 + (1 : Int32)) (fun v4_9 : Int32 =>
  rc_10 th_4 v3_8 v4_9))))))
def l_X2_hearClaims_10 (n : Nat) (p1_0 : OS) (w2_j10 : Int32) : Nat → (OS) → (Int32) → (Int32) → Option (OS × Int32)
  | 0 => fun _ _ _ => none
  | N + 1 => s_X2_hearClaims_10 n p1_0 w2_j10 (l_X2_hearClaims_10 n p1_0 w2_j10 N)
def f_X2_hearClaims (n : Nat) (th_0 : OS) (p1_0 : OS) : Option (OS × Int32) :=
  bnd2 (f_X2_lineUp n th_0) (fun (th_1 : OS) (r_2 : Int32) =>
  l_X2_hearClaims_10 n p1_0 r_2 n th_1 (0 : Int32) (0 : Int32))
set_option maxHeartbeats 4000000 in
set_option maxRecDepth 100000 in
theorem c_X2_hearClaims (n : Nat) (l : Launch) (k : KT) (a_th : Nat → Nat) (a_p1 : Nat → Nat) (th_0 : OS) (p1_0 : OS) (res : (OS × Int32)) (hf : f_X2_hearClaims n th_0 p1_0 = some res) : CG l k yX2_hearClaims cX2_hearClaims 6 (some .int) 4 0 0 97 [.ref (a_th 0), .ref (a_p1 0)] (wCourt k a_th th_0 ++ wRules k a_p1 p1_0) (Qi k (fun u : OS => wCourt k a_th u ++ wRules k a_p1 p1_0) (fun (r : Int32) (u : OS) => res = (u, r))) := by
  refine CG.ofI (by decide) (Nat.le_of_ble_eq_true rfl) (fun p e s m args below meth c A Q E hnm hW hA hret ls hl => ?_)
  have hl : lv_has ls 6 [(0, .ref (a_th 0)), (1, .ref (a_p1 0))] := hl
  unfold f_X2_hearClaims at hf
  refine k_aload_n E hl 0 dX2_hearClaims_0 rfl ?_
  obtain ⟨th_1, r_2, hg, hf⟩ := ob2 hf
  refine k_callVi (As := []) (rest := []) (ws2 := fun u => wCourt k a_th (u) ++ wRules k a_p1 p1_0) (c_X2_lineUp n l k a_th th_0 (th_1, r_2) hg) E vl_X2_175 dX2_hearClaims_1 rfl [0, 1, 2, 3, 4, 5, 6, 7, 8, 9, 10, 11] 3 0 hW hA hl rfl rfl rfl rfl ⟨by decide, by decide⟩ ⟨by decide, by decide⟩ (Nat.le_of_ble_eq_true rfl) rfl (fun _ => rfl) (fun _ => rfl) (fun r u H locs hp hW => ?_)
  cases hp
  have hW : WD k A s.heap (wCourt k a_th th_1 ++ wRules k a_p1 p1_0) H locs := hW
  refine k_istore_n (lv' := [(2, .int r_2), (0, .ref (a_th 0)), (1, .ref (a_p1 0))]) E rfl hl dX2_hearClaims_4 rfl (by decide) rfl (fun ls hl => ?_)
  refine lv_iconst (v := (0 : Int32)) E.hx E.hb dX2_hearClaims_5 ic_0 ?_
  refine k_istore_n (lv' := [(3, .int (0 : Int32)), (2, .int r_2), (0, .ref (a_th 0)), (1, .ref (a_p1 0))]) E rfl hl dX2_hearClaims_6 rfl (by decide) rfl (fun ls hl => ?_)
  refine lv_iconst (v := (0 : Int32)) E.hx E.hb dX2_hearClaims_7 ic_0 ?_
  refine k_istore (lv' := [(4, .int (0 : Int32)), (3, .int (0 : Int32)), (2, .int r_2), (0, .ref (a_th 0)), (1, .ref (a_p1 0))]) E rfl hl dX2_hearClaims_8 (by decide) rfl (fun ls hl => ?_)
  have L_10 : ∀ (N_10 : Nat) (th_j10 : OS) (w3_j10 : Int32) (w4_j10 : Int32) (H : Heap) (locs : List Loc) (ls : Array Slot) (hW : WD k A s.heap (wCourt k a_th th_j10 ++ wRules k a_p1 p1_0) H locs) (hl : lv_has ls 6 [(0, .ref (a_th 0)), (1, .ref (a_p1 0)), (2, .int r_2), (3, .int w3_j10), (4, .int w4_j10)]) (hf : l_X2_hearClaims_10 n p1_0 r_2 N_10 th_j10 w3_j10 w4_j10 = some res), W p l e { frames := 4, cells := 0, slots := 0, locals := 97 } s m args below meth c H locs 0 0 Q (F0 m 10 ls []) := by
    intro N_10
    induction N_10 with
    | zero => intro th_j10 w3_j10 w4_j10 H locs ls hW hl hf; exact o0 hf
    | succ N_10 ih_10 =>
      intro th_j10 w3_j10 w4_j10 H locs ls hW hl hf
      have hf : s_X2_hearClaims_10 n p1_0 r_2 (l_X2_hearClaims_10 n p1_0 r_2 N_10) th_j10 w3_j10 w4_j10 = some res := hf
      unfold s_X2_hearClaims_10 at hf
      refine k_iload E hl 4 dX2_hearClaims_10 rfl ?_
      refine k_iload_n E hl 2 dX2_hearClaims_12 rfl ?_
      refine lv_icmp_ge (tgt := 55) E.hx E.hb dX2_hearClaims_13 (by decide) (fun hc => ?_) (fun hc => ?_)
      · have hf := oT hc hf
        refine k_iload_n E hl 3 dX2_hearClaims_55 rfl ?_
        exact hret _ th_j10 _ _ _ _ _ _ hW (Option.some.inj hf).symm rfl (by decide) (by decide) dX2_hearClaims_56
      · have hf := oF hc hf
        refine k_aload_n E hl 0 dX2_hearClaims_16 rfl ?_
        refine k_iload E hl 4 dX2_hearClaims_17 rfl ?_
        obtain ⟨r_3, hg, hf⟩ := ob hf
        refine k_callVi (As := [.int w4_j10]) (rest := []) (ws2 := fun u => wCourt k a_th th_j10 ++ wRules k a_p1 p1_0) (c_X2_inLine n l k a_th th_j10 w4_j10 r_3 hg) E vl_X2_179 dX2_hearClaims_19 rfl [0, 1, 2, 3, 4, 5, 6, 7, 8, 9, 10, 11] 3 0 hW hA hl rfl rfl rfl rfl ⟨by decide, by decide⟩ ⟨by decide, by decide⟩ (Nat.le_of_ble_eq_true rfl) rfl (fun _ => rfl) (fun _ => rfl) (fun r u H locs hp hW => ?_)
        cases hp
        have hW : WD k A s.heap (wCourt k a_th th_j10 ++ wRules k a_p1 p1_0) H locs := hW
        refine k_istore (lv' := [(5, .int r_3), (0, .ref (a_th 0)), (1, .ref (a_p1 0)), (2, .int r_2), (3, .int w3_j10), (4, .int w4_j10)]) E rfl hl dX2_hearClaims_22 (by decide) rfl (fun ls hl => ?_)
        refine k_aload_n E hl 1 dX2_hearClaims_24 rfl ?_
        refine k_iload E hl 0 dX2_hearClaims_25 rfl ?_
        obtain ⟨th_4, r_5, hg, hf⟩ := ob2 hf
        refine k_callVi (As := [.int r_3]) (rest := []) (ws2 := fun u => wCourt k a_th (u) ++ wRules k a_p1 p1_0) (c_X2_meets n l k a_th th_j10 r_3 (th_4, r_5) hg) E vl_X2_182 dX2_hearClaims_27 rfl [0, 1, 2, 3, 4, 5, 6, 7, 8, 9, 10, 11] 3 0 hW hA hl rfl rfl rfl rfl ⟨by decide, by decide⟩ ⟨by decide, by decide⟩ (Nat.le_of_ble_eq_true rfl) rfl (fun _ => rfl) (fun _ => rfl) (fun r u H locs hp hW => ?_)
        cases hp
        have hW : WD k A s.heap (wCourt k a_th th_4 ++ wRules k a_p1 p1_0) H locs := hW
        refine lv_if_eq (tgt := 39) E.hx E.hb dX2_hearClaims_30 (by decide) (fun hc => ?_) (fun hc => ?_)
        · have hf := oT hc hf
          refine k_aload_n E hl 1 dX2_hearClaims_39 rfl ?_
          refine k_iload E hl 0 dX2_hearClaims_40 rfl ?_
          refine k_aload_n E hl 2 dX2_hearClaims_42 rfl ?_
          refine gf_X2_185 E hW 12 rfl rfl dX2_hearClaims_43 ?_
          obtain ⟨th_6, hg, hf⟩ := ob hf
          refine k_callVv (As := [.int r_3, .int (p1_0.1 5)]) (rest := []) (ws2 := fun u => wCourt k a_th (u) ++ wRules k a_p1 p1_0) (c_X2_putOff n l k a_th th_4 r_3 (p1_0.1 5) th_6 hg) E vl_X2_188 dX2_hearClaims_46 rfl [0, 1, 2, 3, 4, 5, 6, 7, 8, 9, 10, 11] 3 0 hW hA hl rfl rfl rfl rfl ⟨by decide, by decide⟩ ⟨by decide, by decide⟩ (Nat.le_of_ble_eq_true rfl) rfl (fun _ => rfl) (fun _ => rfl) (fun u H locs hp hW => ?_)
          cases hp
          have hW : WD k A s.heap (wCourt k a_th th_6 ++ wRules k a_p1 p1_0) H locs := hW
          obtain ⟨v4_7, ev4_7, hf⟩ := oL hf
          refine k_iinc (lv' := [(4, .int v4_7), (5, .int r_3), (0, .ref (a_th 0)), (1, .ref (a_p1 0)), (2, .int r_2), (3, .int w3_j10)]) E hl 5 dX2_hearClaims_49 rfl (ev4_7.trans (congrArg (fun z => w4_j10 + z) ic_1.symm)) (by decide) rfl (fun ls hl => ?_)
          refine lv_goto (tgt := 10) E.hx E.hb dX2_hearClaims_52 (by decide) ?_
          exact ih_10 th_6 w3_j10 v4_7 _ _ _ hW (lv_sub hl [2, 3, 4, 5, 0] rfl) hf
        · have hf := oF hc hf
          obtain ⟨v3_8, ev3_8, hf⟩ := oL hf
          refine k_iinc (lv' := [(3, .int v3_8), (5, .int r_3), (0, .ref (a_th 0)), (1, .ref (a_p1 0)), (2, .int r_2), (4, .int w4_j10)]) E hl 4 dX2_hearClaims_33 rfl (ev3_8.trans (congrArg (fun z => w3_j10 + z) ic_1.symm)) (by decide) rfl (fun ls hl => ?_)
          refine lv_goto (tgt := 49) E.hx E.hb dX2_hearClaims_36 (by decide) ?_
          obtain ⟨v4_9, ev4_9, hf⟩ := oL hf
          refine k_iinc (lv' := [(4, .int v4_9), (3, .int v3_8), (5, .int r_3), (0, .ref (a_th 0)), (1, .ref (a_p1 0)), (2, .int r_2)]) E hl 5 dX2_hearClaims_49 rfl (ev4_9.trans (congrArg (fun z => w4_j10 + z) ic_1.symm)) (by decide) rfl (fun ls hl => ?_)
          refine lv_goto (tgt := 10) E.hx E.hb dX2_hearClaims_52 (by decide) ?_
          exact ih_10 th_4 v3_8 v4_9 _ _ _ hW (lv_sub hl [3, 4, 5, 1, 0] rfl) hf
  exact L_10 n th_1 (0 : Int32) (0 : Int32) _ _ _ hW (lv_sub hl [3, 4, 2, 1, 0] rfl) hf
def j_X2_tick_116 (n : Nat) (p1_0 : OS) (th_j116 : OS) : Option (OS × Int32) :=
  bnd (f_X5_isHearing n p1_0 (th_j116.1 0)) (fun (r_2 : Int32) =>
  if r_2 = 0 then (
  some (th_j116, (0 : Int32))) else (
  bnd (f_X2_hearFines n th_j116 p1_0) (fun (th_3 : OS) =>
  Let (sI th_3 6 ((th_3.1 6) + (1 : Int32))) (fun th_4 : OS =>
  Let (sI th_4 7 (th_4.1 0)) (fun th_5 : OS =>
  bnd2 (f_X2_hearClaims n th_5 p1_0) (fun (th_6 : OS) (r_7 : Int32) =>
  some (th_6, r_7)))))))
def j_X2_tick_79 (n : Nat) (p1_0 : OS) (rc_12 : (OS) → (Int32) → Option (OS × Int32)) (th_j79 : OS) (w2_j79 : Int32) : Option (OS × Int32) :=
  bnd (f_X5_isFading n p1_0 (th_j79.1 0)) (fun (r_10 : Int32) =>
  if r_10 = 0 then (
  Let (w2_j79 + (1 : Int32)) (fun v2_11 : Int32 =>
  rc_12 th_j79 v2_11)) else (
  bnd (f_X6_get n (5 : Int32) 40 (th_j79.2.1 11) w2_j79 (0 : Int32)) (fun (r_12 : Int32) =>
  bnd (f_X6_set n (5 : Int32) 40 (th_j79.2.1 11) w2_j79 (0 : Int32) (r_12 / (2 : Int32))) (fun (y_13 : Nat → Int32) =>
  Let (sA th_j79 11 y_13) (fun th_14 : OS =>
  Let (w2_j79 + (1 : Int32)) (fun v2_15 : Int32 =>
  rc_12 th_14 v2_15))))))
def j_X2_tick_57 (n : Nat) (p1_0 : OS) (rc_12 : (OS) → (Int32) → Option (OS × Int32)) (th_j57 : OS) (w2_j57 : Int32) : Option (OS × Int32) :=
  bnd (f_X6_get n (5 : Int32) 40 (th_j57.2.1 11) w2_j57 (1 : Int32)) (fun (r_9 : Int32) =>
  if r_9 ≤ 0 then (
  j_X2_tick_79 n p1_0 rc_12 th_j57 w2_j57) else (
  bnd (f_X6_add n (5 : Int32) 40 (th_j57.2.1 11) w2_j57 (1 : Int32) (-1 : Int32)) (fun (y_16 : Nat → Int32) =>
  Let (sA th_j57 11 y_16) (fun th_17 : OS =>
  j_X2_tick_79 n p1_0 rc_12 th_17 w2_j57))))
def s_X2_tick_12 (n : Nat) (p1_0 : OS) (rc_12 : (OS) → (Int32) → Option (OS × Int32)) (th_j12 : OS) (w2_j12 : Int32) : Option (OS × Int32) :=
  if (p1_0.1 1) ≤ w2_j12 then (
  j_X2_tick_116 n p1_0 th_j12) else (
  bnd (f_X6_get n (5 : Int32) 40 (th_j12.2.1 11) w2_j12 (2 : Int32)) (fun (r_8 : Int32) =>
  if r_8 ≤ 0 then (
  j_X2_tick_57 n p1_0 rc_12 th_j12 w2_j12) else (
  bnd (f_X6_add n (5 : Int32) 40 (th_j12.2.1 11) w2_j12 (2 : Int32) (-1 : Int32)) (fun (y_18 : Nat → Int32) =>
  Let (sA th_j12 11 y_18) (fun th_19 : OS =>
  bnd (f_X6_add n (5 : Int32) 40 (th_19.2.1 11) w2_j12 (4 : Int32) (1 : Int32)) (fun (y_20 : Nat → Int32) =>
  Let (sA th_19 11 y_20) (fun th_21 : OS =>
  bnd (f_X2_noteStalled n th_21 w2_j12) (fun (th_22 : OS) =>
  j_X2_tick_57 n p1_0 rc_12 th_22 w2_j12))))))))
def l_X2_tick_12 (n : Nat) (p1_0 : OS) : Nat → (OS) → (Int32) → Option (OS × Int32)
  | 0 => fun _ _ => none
  | N + 1 => s_X2_tick_12 n p1_0 (l_X2_tick_12 n p1_0 N)
def f_X2_tick (n : Nat) (th_0 : OS) (p1_0 : OS) : Option (OS × Int32) :=
  Let (sI th_0 0 ((th_0.1 0) + (1 : Int32))) (fun th_1 : OS =>
  l_X2_tick_12 n p1_0 n th_1 (0 : Int32))
set_option maxHeartbeats 4000000 in
set_option maxRecDepth 100000 in
theorem c_X2_tick (n : Nat) (l : Launch) (k : KT) (a_th : Nat → Nat) (a_p1 : Nat → Nat) (th_0 : OS) (p1_0 : OS) (res : (OS × Int32)) (hf : f_X2_tick n th_0 p1_0 = some res) : CG l k yX2_tick cX2_tick 3 (some .int) 5 0 0 122 [.ref (a_th 0), .ref (a_p1 0)] (wCourt k a_th th_0 ++ wRules k a_p1 p1_0) (Qi k (fun u : OS => wCourt k a_th u ++ wRules k a_p1 p1_0) (fun (r : Int32) (u : OS) => res = (u, r))) := by
  refine CG.ofI (by decide) (Nat.le_of_ble_eq_true rfl) (fun p e s m args below meth c A Q E hnm hW hA hret ls hl => ?_)
  have hl : lv_has ls 3 [(0, .ref (a_th 0)), (1, .ref (a_p1 0))] := hl
  unfold f_X2_tick at hf
  refine k_aload_n E hl 0 dX2_tick_0 rfl ?_
  refine lv_dup E.hx E.hb dX2_tick_1 rfl ?_
  refine gf_X2_9 E hW 0 rfl rfl dX2_tick_2 ?_
  refine lv_iconst (v := (1 : Int32)) E.hx E.hb dX2_tick_5 ic_1 ?_
  refine lv_iadd E.hx E.hb dX2_tick_6 ?_
  obtain ⟨th_1, eth_1, hf⟩ := oL hf
  refine pf_X2_9 (ws2 := wCourt k a_th th_1 ++ wRules k a_p1 p1_0) E hW 0 rfl rfl rfl (Nat.le_of_ble_eq_true rfl) dX2_tick_7 (by rw [eth_1]; rfl) (fun H locs hW => ?_)
  refine lv_iconst (v := (0 : Int32)) E.hx E.hb dX2_tick_10 ic_0 ?_
  refine k_istore_n (lv' := [(2, .int (0 : Int32)), (0, .ref (a_th 0)), (1, .ref (a_p1 0))]) E rfl hl dX2_tick_11 rfl (by decide) rfl (fun ls hl => ?_)
  have L_12 : ∀ (N_12 : Nat) (th_j12 : OS) (w2_j12 : Int32) (H : Heap) (locs : List Loc) (ls : Array Slot) (hW : WD k A s.heap (wCourt k a_th th_j12 ++ wRules k a_p1 p1_0) H locs) (hl : lv_has ls 3 [(0, .ref (a_th 0)), (1, .ref (a_p1 0)), (2, .int w2_j12)]) (hf : l_X2_tick_12 n p1_0 N_12 th_j12 w2_j12 = some res), W p l e { frames := 5, cells := 0, slots := 0, locals := 122 } s m args below meth c H locs 0 0 Q (F0 m 12 ls []) := by
    intro N_12
    induction N_12 with
    | zero => intro th_j12 w2_j12 H locs ls hW hl hf; exact o0 hf
    | succ N_12 ih_12 =>
      intro th_j12 w2_j12 H locs ls hW hl hf
      have hf : s_X2_tick_12 n p1_0 (l_X2_tick_12 n p1_0 N_12) th_j12 w2_j12 = some res := hf
      unfold s_X2_tick_12 at hf
      refine k_iload_n E hl 2 dX2_tick_12 rfl ?_
      refine k_aload_n E hl 1 dX2_tick_13 rfl ?_
      refine gf_X2_145 E hW 12 rfl rfl dX2_tick_14 ?_
      have J_116 : ∀ (th_j116 : OS) (H : Heap) (locs : List Loc) (ls : Array Slot) (hW : WD k A s.heap (wCourt k a_th th_j116 ++ wRules k a_p1 p1_0) H locs) (hl : lv_has ls 3 [(0, .ref (a_th 0)), (1, .ref (a_p1 0))]) (hf : j_X2_tick_116 n p1_0 th_j116 = some res), W p l e { frames := 5, cells := 0, slots := 0, locals := 122 } s m args below meth c H locs 0 0 Q (F0 m 116 ls []) := by
        intro th_j116 H locs ls hW hl hf
        unfold j_X2_tick_116 at hf
        refine k_aload_n E hl 1 dX2_tick_116 rfl ?_
        refine k_aload_n E hl 0 dX2_tick_117 rfl ?_
        refine gf_X2_9 E hW 0 rfl rfl dX2_tick_118 ?_
        obtain ⟨r_2, hg, hf⟩ := ob hf
        refine k_callVi (As := [.int (th_j116.1 0)]) (rest := []) (ws2 := fun u => wCourt k a_th th_j116 ++ wRules k a_p1 p1_0) (c_X5_isHearing n l k a_p1 p1_0 (th_j116.1 0) r_2 hg) E vl_X2_155 dX2_tick_121 rfl [12, 13, 14] 6 12 hW hA hl rfl rfl rfl rfl ⟨by decide, by decide⟩ ⟨by decide, by decide⟩ (Nat.le_of_ble_eq_true rfl) rfl (fun _ => rfl) (fun _ => rfl) (fun r u H locs hp hW => ?_)
        cases hp
        have hW : WD k A s.heap (wCourt k a_th th_j116 ++ wRules k a_p1 p1_0) H locs := hW
        refine lv_if_ne (tgt := 129) E.hx E.hb dX2_tick_124 (by decide) (fun hc => ?_) (fun hc => ?_)
        · have hf := oF hc hf
          refine k_aload_n E hl 0 dX2_tick_129 rfl ?_
          refine k_aload_n E hl 1 dX2_tick_130 rfl ?_
          obtain ⟨th_3, hg, hf⟩ := ob hf
          refine k_callVv (As := [.ref (a_p1 0)]) (rest := []) (ws2 := fun u => wCourt k a_th (u) ++ wRules k a_p1 p1_0) (c_X2_hearFines n l k a_th a_p1 th_j116 p1_0 th_3 hg) E vl_X2_158 dX2_tick_131 rfl [0, 1, 2, 3, 4, 5, 6, 7, 8, 9, 10, 11, 12, 13, 14] 3 0 hW hA hl rfl rfl rfl rfl ⟨by decide, by decide⟩ ⟨by decide, by decide⟩ (Nat.le_of_ble_eq_true rfl) rfl (fun _ => rfl) (fun _ => rfl) (fun u H locs hp hW => ?_)
          cases hp
          have hW : WD k A s.heap (wCourt k a_th th_3 ++ wRules k a_p1 p1_0) H locs := hW
          refine k_aload_n E hl 0 dX2_tick_134 rfl ?_
          refine lv_dup E.hx E.hb dX2_tick_135 rfl ?_
          refine gf_X2_30 E hW 0 rfl rfl dX2_tick_136 ?_
          refine lv_iconst (v := (1 : Int32)) E.hx E.hb dX2_tick_139 ic_1 ?_
          refine lv_iadd E.hx E.hb dX2_tick_140 ?_
          obtain ⟨th_4, eth_4, hf⟩ := oL hf
          refine pf_X2_30 (ws2 := wCourt k a_th th_4 ++ wRules k a_p1 p1_0) E hW 0 rfl rfl rfl (Nat.le_of_ble_eq_true rfl) dX2_tick_141 (by rw [eth_4]; rfl) (fun H locs hW => ?_)
          refine k_aload_n E hl 0 dX2_tick_144 rfl ?_
          refine k_aload_n E hl 0 dX2_tick_145 rfl ?_
          refine gf_X2_9 E hW 0 rfl rfl dX2_tick_146 ?_
          obtain ⟨th_5, eth_5, hf⟩ := oL hf
          refine pf_X2_33 (ws2 := wCourt k a_th th_5 ++ wRules k a_p1 p1_0) E hW 0 rfl rfl rfl (Nat.le_of_ble_eq_true rfl) dX2_tick_149 (by rw [eth_5]; rfl) (fun H locs hW => ?_)
          refine k_aload_n E hl 0 dX2_tick_152 rfl ?_
          refine k_aload_n E hl 1 dX2_tick_153 rfl ?_
          obtain ⟨th_6, r_7, hg, hf⟩ := ob2 hf
          refine k_callVi (As := [.ref (a_p1 0)]) (rest := []) (ws2 := fun u => wCourt k a_th (u) ++ wRules k a_p1 p1_0) (c_X2_hearClaims n l k a_th a_p1 th_5 p1_0 (th_6, r_7) hg) E vl_X2_162 dX2_tick_154 rfl [0, 1, 2, 3, 4, 5, 6, 7, 8, 9, 10, 11, 12, 13, 14] 3 0 hW hA hl rfl rfl rfl rfl ⟨by decide, by decide⟩ ⟨by decide, by decide⟩ (Nat.le_of_ble_eq_true rfl) rfl (fun _ => rfl) (fun _ => rfl) (fun r u H locs hp hW => ?_)
          cases hp
          have hW : WD k A s.heap (wCourt k a_th th_6 ++ wRules k a_p1 p1_0) H locs := hW
          exact hret _ th_6 _ _ _ _ _ _ hW (Option.some.inj hf).symm rfl (by decide) (by decide) dX2_tick_157
        · have hf := oT hc hf
          refine lv_iconst (v := (0 : Int32)) E.hx E.hb dX2_tick_127 ic_0 ?_
          exact hret _ th_j116 _ _ _ _ _ _ hW (Option.some.inj hf).symm rfl (by decide) (by decide) dX2_tick_128
      refine lv_icmp_ge (tgt := 116) E.hx E.hb dX2_tick_17 (by decide) (fun hc => ?_) (fun hc => ?_)
      · have hf := oT hc hf
        exact J_116 th_j12 _ _ _ hW (lv_sub hl [0, 1] rfl) hf
      · have hf := oF hc hf
        refine k_aload_n E hl 0 dX2_tick_20 rfl ?_
        refine gf_X2_52 E hW 0 rfl rfl dX2_tick_21 ?_
        refine k_iload_n E hl 2 dX2_tick_24 rfl ?_
        refine lv_iconst (v := (2 : Int32)) E.hx E.hb dX2_tick_25 ic_2 ?_
        obtain ⟨r_8, hg, hf⟩ := ob hf
        refine k_callVi (As := [.int w2_j12, .int (2 : Int32)]) (rest := []) (ws2 := fun u => wCourt k a_th th_j12 ++ wRules k a_p1 p1_0) (c_X6_get n l k (fun j => a_th (3 + j)) (5 : Int32) 40 (th_j12.2.1 11) w2_j12 (2 : Int32) r_8 hg) E vl_X2_100 dX2_tick_26 rfl [3, 4] 7 3 hW hA hl rfl rfl rfl rfl ⟨by decide, by decide⟩ ⟨by decide, by decide⟩ (Nat.le_of_ble_eq_true rfl) rfl (fun _ => rfl) (fun _ => rfl) (fun r u H locs hp hW => ?_)
        cases hp
        have hW : WD k A s.heap (wCourt k a_th th_j12 ++ wRules k a_p1 p1_0) H locs := hW
        have J_57 : ∀ (th_j57 : OS) (w2_j57 : Int32) (H : Heap) (locs : List Loc) (ls : Array Slot) (hW : WD k A s.heap (wCourt k a_th th_j57 ++ wRules k a_p1 p1_0) H locs) (hl : lv_has ls 3 [(0, .ref (a_th 0)), (1, .ref (a_p1 0)), (2, .int w2_j57)]) (hf : j_X2_tick_57 n p1_0 (l_X2_tick_12 n p1_0 N_12) th_j57 w2_j57 = some res), W p l e { frames := 5, cells := 0, slots := 0, locals := 122 } s m args below meth c H locs 0 0 Q (F0 m 57 ls []) := by
          intro th_j57 w2_j57 H locs ls hW hl hf
          unfold j_X2_tick_57 at hf
          refine k_aload_n E hl 0 dX2_tick_57 rfl ?_
          refine gf_X2_52 E hW 0 rfl rfl dX2_tick_58 ?_
          refine k_iload_n E hl 2 dX2_tick_61 rfl ?_
          refine lv_iconst (v := (1 : Int32)) E.hx E.hb dX2_tick_62 ic_1 ?_
          obtain ⟨r_9, hg, hf⟩ := ob hf
          refine k_callVi (As := [.int w2_j57, .int (1 : Int32)]) (rest := []) (ws2 := fun u => wCourt k a_th th_j57 ++ wRules k a_p1 p1_0) (c_X6_get n l k (fun j => a_th (3 + j)) (5 : Int32) 40 (th_j57.2.1 11) w2_j57 (1 : Int32) r_9 hg) E vl_X2_100 dX2_tick_63 rfl [3, 4] 7 3 hW hA hl rfl rfl rfl rfl ⟨by decide, by decide⟩ ⟨by decide, by decide⟩ (Nat.le_of_ble_eq_true rfl) rfl (fun _ => rfl) (fun _ => rfl) (fun r u H locs hp hW => ?_)
          cases hp
          have hW : WD k A s.heap (wCourt k a_th th_j57 ++ wRules k a_p1 p1_0) H locs := hW
          have J_79 : ∀ (th_j79 : OS) (w2_j79 : Int32) (H : Heap) (locs : List Loc) (ls : Array Slot) (hW : WD k A s.heap (wCourt k a_th th_j79 ++ wRules k a_p1 p1_0) H locs) (hl : lv_has ls 3 [(0, .ref (a_th 0)), (1, .ref (a_p1 0)), (2, .int w2_j79)]) (hf : j_X2_tick_79 n p1_0 (l_X2_tick_12 n p1_0 N_12) th_j79 w2_j79 = some res), W p l e { frames := 5, cells := 0, slots := 0, locals := 122 } s m args below meth c H locs 0 0 Q (F0 m 79 ls []) := by
            intro th_j79 w2_j79 H locs ls hW hl hf
            unfold j_X2_tick_79 at hf
            refine k_aload_n E hl 1 dX2_tick_79 rfl ?_
            refine k_aload_n E hl 0 dX2_tick_80 rfl ?_
            refine gf_X2_9 E hW 0 rfl rfl dX2_tick_81 ?_
            obtain ⟨r_10, hg, hf⟩ := ob hf
            refine k_callVi (As := [.int (th_j79.1 0)]) (rest := []) (ws2 := fun u => wCourt k a_th th_j79 ++ wRules k a_p1 p1_0) (c_X5_isFading n l k a_p1 p1_0 (th_j79.1 0) r_10 hg) E vl_X2_152 dX2_tick_84 rfl [12, 13, 14] 6 12 hW hA hl rfl rfl rfl rfl ⟨by decide, by decide⟩ ⟨by decide, by decide⟩ (Nat.le_of_ble_eq_true rfl) rfl (fun _ => rfl) (fun _ => rfl) (fun r u H locs hp hW => ?_)
            cases hp
            have hW : WD k A s.heap (wCourt k a_th th_j79 ++ wRules k a_p1 p1_0) H locs := hW
            refine lv_if_eq (tgt := 110) E.hx E.hb dX2_tick_87 (by decide) (fun hc => ?_) (fun hc => ?_)
            · have hf := oT hc hf
              obtain ⟨v2_11, ev2_11, hf⟩ := oL hf
              refine k_iinc (lv' := [(2, .int v2_11), (0, .ref (a_th 0)), (1, .ref (a_p1 0))]) E hl 2 dX2_tick_110 rfl (ev2_11.trans (congrArg (fun z => w2_j79 + z) ic_1.symm)) (by decide) rfl (fun ls hl => ?_)
              refine lv_goto (tgt := 12) E.hx E.hb dX2_tick_113 (by decide) ?_
              exact ih_12 th_j79 v2_11 _ _ _ hW (lv_sub hl [1, 2, 0] rfl) hf
            · have hf := oF hc hf
              refine k_aload_n E hl 0 dX2_tick_90 rfl ?_
              refine gf_X2_52 E hW 0 rfl rfl dX2_tick_91 ?_
              refine k_iload_n E hl 2 dX2_tick_94 rfl ?_
              refine lv_iconst (v := (0 : Int32)) E.hx E.hb dX2_tick_95 ic_0 ?_
              refine k_aload_n E hl 0 dX2_tick_96 rfl ?_
              refine gf_X2_52 E hW 0 rfl rfl dX2_tick_97 ?_
              refine k_iload_n E hl 2 dX2_tick_100 rfl ?_
              refine lv_iconst (v := (0 : Int32)) E.hx E.hb dX2_tick_101 ic_0 ?_
              obtain ⟨r_12, hg, hf⟩ := ob hf
              refine k_callVi (As := [.int w2_j79, .int (0 : Int32)]) (rest := [.int (0 : Int32), .int w2_j79, .ref (a_th 3)]) (ws2 := fun u => wCourt k a_th th_j79 ++ wRules k a_p1 p1_0) (c_X6_get n l k (fun j => a_th (3 + j)) (5 : Int32) 40 (th_j79.2.1 11) w2_j79 (0 : Int32) r_12 hg) E vl_X2_100 dX2_tick_102 rfl [3, 4] 7 3 hW hA hl rfl rfl rfl rfl ⟨by decide, by decide⟩ ⟨by decide, by decide⟩ (Nat.le_of_ble_eq_true rfl) rfl (fun _ => rfl) (fun _ => rfl) (fun r u H locs hp hW => ?_)
              cases hp
              have hW : WD k A s.heap (wCourt k a_th th_j79 ++ wRules k a_p1 p1_0) H locs := hW
              refine lv_iconst (v := (2 : Int32)) E.hx E.hb dX2_tick_105 ic_2 ?_
              refine lv_idiv E.hx E.hb dX2_tick_106 (by decide) ?_
              obtain ⟨y_13, hg, hf⟩ := ob hf
              obtain ⟨th_14, eth_14, hf⟩ := oL hf
              refine k_callVv (As := [.int w2_j79, .int (0 : Int32), .int (r_12 / (2 : Int32))]) (rest := []) (ws2 := fun u => wCourt k a_th (sA th_j79 11 (u)) ++ wRules k a_p1 p1_0) (c_X6_set n l k (fun j => a_th (3 + j)) (5 : Int32) 40 (th_j79.2.1 11) w2_j79 (0 : Int32) (r_12 / (2 : Int32)) y_13 hg) E vl_X2_93 dX2_tick_107 rfl [3, 4] 7 3 hW hA hl rfl rfl rfl rfl ⟨by decide, by decide⟩ ⟨by decide, by decide⟩ (Nat.le_of_ble_eq_true rfl) rfl (fun _ => rfl) (fun _ => rfl) (fun u H locs hp hW => ?_)
              cases hp
              have hW : WD k A s.heap (wCourt k a_th th_14 ++ wRules k a_p1 p1_0) H locs := by rw [eth_14]; exact hW
              obtain ⟨v2_15, ev2_15, hf⟩ := oL hf
              refine k_iinc (lv' := [(2, .int v2_15), (0, .ref (a_th 0)), (1, .ref (a_p1 0))]) E hl 2 dX2_tick_110 rfl (ev2_15.trans (congrArg (fun z => w2_j79 + z) ic_1.symm)) (by decide) rfl (fun ls hl => ?_)
              refine lv_goto (tgt := 12) E.hx E.hb dX2_tick_113 (by decide) ?_
              exact ih_12 th_14 v2_15 _ _ _ hW (lv_sub hl [1, 2, 0] rfl) hf
          refine lv_if_le (tgt := 79) E.hx E.hb dX2_tick_66 (by decide) (fun hc => ?_) (fun hc => ?_)
          · have hf := oT hc hf
            exact J_79 th_j57 w2_j57 _ _ _ hW (lv_sub hl [0, 1, 2] rfl) hf
          · have hf := oF hc hf
            refine k_aload_n E hl 0 dX2_tick_69 rfl ?_
            refine gf_X2_52 E hW 0 rfl rfl dX2_tick_70 ?_
            refine k_iload_n E hl 2 dX2_tick_73 rfl ?_
            refine lv_iconst (v := (1 : Int32)) E.hx E.hb dX2_tick_74 ic_1 ?_
            refine lv_iconst (v := (-1 : Int32)) E.hx E.hb dX2_tick_75 ic_m1 ?_
            obtain ⟨y_16, hg, hf⟩ := ob hf
            obtain ⟨th_17, eth_17, hf⟩ := oL hf
            refine k_callVv (As := [.int w2_j57, .int (1 : Int32), .int (-1 : Int32)]) (rest := []) (ws2 := fun u => wCourt k a_th (sA th_j57 11 (u)) ++ wRules k a_p1 p1_0) (c_X6_add n l k (fun j => a_th (3 + j)) (5 : Int32) 40 (th_j57.2.1 11) w2_j57 (1 : Int32) (-1 : Int32) y_16 hg) E vl_X2_97 dX2_tick_76 rfl [3, 4] 7 3 hW hA hl rfl rfl rfl rfl ⟨by decide, by decide⟩ ⟨by decide, by decide⟩ (Nat.le_of_ble_eq_true rfl) rfl (fun _ => rfl) (fun _ => rfl) (fun u H locs hp hW => ?_)
            cases hp
            have hW : WD k A s.heap (wCourt k a_th th_17 ++ wRules k a_p1 p1_0) H locs := by rw [eth_17]; exact hW
            exact J_79 th_17 w2_j57 _ _ _ hW (lv_sub hl [0, 1, 2] rfl) hf
        refine lv_if_le (tgt := 57) E.hx E.hb dX2_tick_29 (by decide) (fun hc => ?_) (fun hc => ?_)
        · have hf := oT hc hf
          exact J_57 th_j12 w2_j12 _ _ _ hW (lv_sub hl [0, 1, 2] rfl) hf
        · have hf := oF hc hf
          refine k_aload_n E hl 0 dX2_tick_32 rfl ?_
          refine gf_X2_52 E hW 0 rfl rfl dX2_tick_33 ?_
          refine k_iload_n E hl 2 dX2_tick_36 rfl ?_
          refine lv_iconst (v := (2 : Int32)) E.hx E.hb dX2_tick_37 ic_2 ?_
          refine lv_iconst (v := (-1 : Int32)) E.hx E.hb dX2_tick_38 ic_m1 ?_
          obtain ⟨y_18, hg, hf⟩ := ob hf
          obtain ⟨th_19, eth_19, hf⟩ := oL hf
          refine k_callVv (As := [.int w2_j12, .int (2 : Int32), .int (-1 : Int32)]) (rest := []) (ws2 := fun u => wCourt k a_th (sA th_j12 11 (u)) ++ wRules k a_p1 p1_0) (c_X6_add n l k (fun j => a_th (3 + j)) (5 : Int32) 40 (th_j12.2.1 11) w2_j12 (2 : Int32) (-1 : Int32) y_18 hg) E vl_X2_97 dX2_tick_39 rfl [3, 4] 7 3 hW hA hl rfl rfl rfl rfl ⟨by decide, by decide⟩ ⟨by decide, by decide⟩ (Nat.le_of_ble_eq_true rfl) rfl (fun _ => rfl) (fun _ => rfl) (fun u H locs hp hW => ?_)
          cases hp
          have hW : WD k A s.heap (wCourt k a_th th_19 ++ wRules k a_p1 p1_0) H locs := by rw [eth_19]; exact hW
          refine k_aload_n E hl 0 dX2_tick_42 rfl ?_
          refine gf_X2_52 E hW 0 rfl rfl dX2_tick_43 ?_
          refine k_iload_n E hl 2 dX2_tick_46 rfl ?_
          refine lv_iconst (v := (4 : Int32)) E.hx E.hb dX2_tick_47 ic_4 ?_
          refine lv_iconst (v := (1 : Int32)) E.hx E.hb dX2_tick_48 ic_1 ?_
          obtain ⟨y_20, hg, hf⟩ := ob hf
          obtain ⟨th_21, eth_21, hf⟩ := oL hf
          refine k_callVv (As := [.int w2_j12, .int (4 : Int32), .int (1 : Int32)]) (rest := []) (ws2 := fun u => wCourt k a_th (sA th_19 11 (u)) ++ wRules k a_p1 p1_0) (c_X6_add n l k (fun j => a_th (3 + j)) (5 : Int32) 40 (th_19.2.1 11) w2_j12 (4 : Int32) (1 : Int32) y_20 hg) E vl_X2_97 dX2_tick_49 rfl [3, 4] 7 3 hW hA hl rfl rfl rfl rfl ⟨by decide, by decide⟩ ⟨by decide, by decide⟩ (Nat.le_of_ble_eq_true rfl) rfl (fun _ => rfl) (fun _ => rfl) (fun u H locs hp hW => ?_)
          cases hp
          have hW : WD k A s.heap (wCourt k a_th th_21 ++ wRules k a_p1 p1_0) H locs := by rw [eth_21]; exact hW
          refine k_aload_n E hl 0 dX2_tick_52 rfl ?_
          refine k_iload_n E hl 2 dX2_tick_53 rfl ?_
          obtain ⟨th_22, hg, hf⟩ := ob hf
          refine k_callVv (As := [.int w2_j12]) (rest := []) (ws2 := fun u => wCourt k a_th (u) ++ wRules k a_p1 p1_0) (c_X2_noteStalled n l k a_th th_21 w2_j12 th_22 hg) E vl_X2_149 dX2_tick_54 rfl [0, 1, 2, 3, 4, 5, 6, 7, 8, 9, 10, 11] 3 0 hW hA hl rfl rfl rfl rfl ⟨by decide, by decide⟩ ⟨by decide, by decide⟩ (Nat.le_of_ble_eq_true rfl) rfl (fun _ => rfl) (fun _ => rfl) (fun u H locs hp hW => ?_)
          cases hp
          have hW : WD k A s.heap (wCourt k a_th th_22 ++ wRules k a_p1 p1_0) H locs := hW
          exact J_57 th_22 w2_j12 _ _ _ hW (lv_sub hl [0, 1, 2] rfl) hf
  exact L_12 n th_1 (0 : Int32) _ _ _ hW (lv_sub hl [1, 2, 0] rfl) hf
