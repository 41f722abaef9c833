theorem tm_1318 : (Jvm.Cond.fieldLink "MemoryCourtModel" (67 : Nat) "MemoryCourtModel" "told" "I") ∈ lw_tbl := List.mem_of_getElem? (i := 1318) (by decide +kernel)
theorem tm_1327 : (Jvm.Cond.fieldLink "MemoryCourtModel" (13 : Nat) "MemoryCourtModel" "now" "[I") ∈ lw_tbl := List.mem_of_getElem? (i := 1327) (by decide +kernel)
theorem tm_1329 : (Jvm.Cond.fieldLink "MemoryCourtModel" (20 : Nat) "MemoryCourtModel" "aside" "[I") ∈ lw_tbl := List.mem_of_getElem? (i := 1329) (by decide +kernel)
theorem tm_1315 : (Jvm.Cond.methodLink "MemoryCourtModel" (70 : Nat) ({ cls := "MemoryCourtModel", name := "copies", desc := "([I[I)V" } : Jvm.MethodName)) ∈ lw_tbl := List.mem_of_getElem? (i := 1315) (by decide +kernel)
theorem tm_1316 : (Jvm.Cond.static ({ cls := "MemoryCourtModel", name := "copies", desc := "([I[I)V" } : Jvm.MethodName)) ∈ lw_tbl := List.mem_of_getElem? (i := 1316) (by decide +kernel)
theorem tm_119 : (Jvm.Cond.initialized "MemoryCourtModel") ∈ lw_tbl := List.mem_of_getElem? (i := 119) (by decide +kernel)
theorem tm_1317 : (Jvm.Cond.code ({ cls := "MemoryCourtModel", name := "copies", desc := "([I[I)V" } : Jvm.MethodName) prog_11_method_9_code (3 : Nat) (Option.none : Option Jvm.ClassFile.FieldType)) ∈ lw_tbl := List.mem_of_getElem? (i := 1317) (by decide +kernel)
theorem tm_1333 : (Jvm.Cond.fieldLink "MemoryCourtModel" (74 : Nat) "MemoryCourtModel" "historyMany" "I") ∈ lw_tbl := List.mem_of_getElem? (i := 1333) (by decide +kernel)
theorem tm_1332 : (Jvm.Cond.fieldLink "MemoryCourtModel" (29 : Nat) "MemoryCourtModel" "history" "[I") ∈ lw_tbl := List.mem_of_getElem? (i := 1332) (by decide +kernel)
theorem tm_1450 : (Jvm.Cond.methodLink "MemoryCourtModel" (77 : Nat) ({ cls := "MemoryCourtModel", name := "is", desc := "(Z)Z" } : Jvm.MethodName)) ∈ lw_tbl := List.mem_of_getElem? (i := 1450) (by decide +kernel)
theorem tm_1452 : (Jvm.Cond.instanceMethod ({ cls := "MemoryCourtModel", name := "is", desc := "(Z)Z" } : Jvm.MethodName)) ∈ lw_tbl := List.mem_of_getElem? (i := 1452) (by decide +kernel)
theorem tms_36 : (Jvm.Cond.selects "MemoryCourtModel" ({ cls := "MemoryCourtModel", name := "is", desc := "(Z)Z" } : Jvm.MethodName) ({ cls := "MemoryCourtModel", name := "is", desc := "(Z)Z" } : Jvm.MethodName)) ∈ lw_tbl := List.mem_of_getElem? (i := 36) (by decide +kernel)
theorem tm_1453 : (Jvm.Cond.code ({ cls := "MemoryCourtModel", name := "is", desc := "(Z)Z" } : Jvm.MethodName) prog_11_method_3_code (2 : Nat) (Option.some Jvm.ClassFile.FieldType.boolean)) ∈ lw_tbl := List.mem_of_getElem? (i := 1453) (by decide +kernel)
theorem tm_1331 : (Jvm.Cond.fieldLink "MemoryCourtModel" (26 : Nat) "MemoryCourtModel" "saved" "[I") ∈ lw_tbl := List.mem_of_getElem? (i := 1331) (by decide +kernel)
theorem tm_1334 : (Jvm.Cond.fieldLink "MemoryCourtModel" (81 : Nat) "MemoryCourtModel" "isSaved" "Z") ∈ lw_tbl := List.mem_of_getElem? (i := 1334) (by decide +kernel)
theorem tm_1330 : (Jvm.Cond.fieldLink "MemoryCourtModel" (23 : Nat) "MemoryCourtModel" "tried" "[I") ∈ lw_tbl := List.mem_of_getElem? (i := 1330) (by decide +kernel)
theorem tm_1534 : (Jvm.Cond.methodLink "MemoryCourtModel" (85 : Nat) ({ cls := "MemoryCourtModel", name := "fineAt", desc := "(I)I" } : Jvm.MethodName)) ∈ lw_tbl := List.mem_of_getElem? (i := 1534) (by decide +kernel)
theorem tm_1535 : (Jvm.Cond.static ({ cls := "MemoryCourtModel", name := "fineAt", desc := "(I)I" } : Jvm.MethodName)) ∈ lw_tbl := List.mem_of_getElem? (i := 1535) (by decide +kernel)
theorem tm_1536 : (Jvm.Cond.code ({ cls := "MemoryCourtModel", name := "fineAt", desc := "(I)I" } : Jvm.MethodName) prog_11_method_21_code (1 : Nat) (Option.some Jvm.ClassFile.FieldType.int)) ∈ lw_tbl := List.mem_of_getElem? (i := 1536) (by decide +kernel)
theorem tm_1320 : (Jvm.Cond.fieldLink "MemoryCourtModel" (89 : Nat) "MemoryCourtModel" "processes" "I") ∈ lw_tbl := List.mem_of_getElem? (i := 1320) (by decide +kernel)
theorem tm_1308 : (Jvm.Cond.methodLink "MemoryCourtModel" (92 : Nat) ({ cls := "MemoryCourtModel", name := "isIn", desc := "(JJJ)Z" } : Jvm.MethodName)) ∈ lw_tbl := List.mem_of_getElem? (i := 1308) (by decide +kernel)
theorem tm_1309 : (Jvm.Cond.static ({ cls := "MemoryCourtModel", name := "isIn", desc := "(JJJ)Z" } : Jvm.MethodName)) ∈ lw_tbl := List.mem_of_getElem? (i := 1309) (by decide +kernel)
theorem tm_1310 : (Jvm.Cond.code ({ cls := "MemoryCourtModel", name := "isIn", desc := "(JJJ)Z" } : Jvm.MethodName) prog_11_method_5_code (6 : Nat) (Option.some Jvm.ClassFile.FieldType.boolean)) ∈ lw_tbl := List.mem_of_getElem? (i := 1310) (by decide +kernel)
theorem tm_1525 : (Jvm.Cond.methodLink "MemoryCourtModel" (96 : Nat) ({ cls := "MemoryCourtModel", name := "greater", desc := "(II)I" } : Jvm.MethodName)) ∈ lw_tbl := List.mem_of_getElem? (i := 1525) (by decide +kernel)
theorem tm_1526 : (Jvm.Cond.static ({ cls := "MemoryCourtModel", name := "greater", desc := "(II)I" } : Jvm.MethodName)) ∈ lw_tbl := List.mem_of_getElem? (i := 1526) (by decide +kernel)
theorem tm_1527 : (Jvm.Cond.code ({ cls := "MemoryCourtModel", name := "greater", desc := "(II)I" } : Jvm.MethodName) prog_11_method_7_code (2 : Nat) (Option.some Jvm.ClassFile.FieldType.int)) ∈ lw_tbl := List.mem_of_getElem? (i := 1527) (by decide +kernel)
theorem tm_1319 : (Jvm.Cond.fieldLink "MemoryCourtModel" (100 : Nat) "MemoryCourtModel" "pages" "I") ∈ lw_tbl := List.mem_of_getElem? (i := 1319) (by decide +kernel)
theorem tm_1517 : (Jvm.Cond.methodLink "MemoryCourtModel" (103 : Nat) ({ cls := "MemoryCourtModel", name := "pagesOf", desc := "(I)I" } : Jvm.MethodName)) ∈ lw_tbl := List.mem_of_getElem? (i := 1517) (by decide +kernel)
theorem tm_1519 : (Jvm.Cond.instanceMethod ({ cls := "MemoryCourtModel", name := "pagesOf", desc := "(I)I" } : Jvm.MethodName)) ∈ lw_tbl := List.mem_of_getElem? (i := 1519) (by decide +kernel)
theorem tms_48 : (Jvm.Cond.selects "MemoryCourtModel" ({ cls := "MemoryCourtModel", name := "pagesOf", desc := "(I)I" } : Jvm.MethodName) ({ cls := "MemoryCourtModel", name := "pagesOf", desc := "(I)I" } : Jvm.MethodName)) ∈ lw_tbl := List.mem_of_getElem? (i := 48) (by decide +kernel)
theorem tm_1520 : (Jvm.Cond.code ({ cls := "MemoryCourtModel", name := "pagesOf", desc := "(I)I" } : Jvm.MethodName) prog_11_method_27_code (4 : Nat) (Option.some Jvm.ClassFile.FieldType.int)) ∈ lw_tbl := List.mem_of_getElem? (i := 1520) (by decide +kernel)
theorem tm_1513 : (Jvm.Cond.methodLink "MemoryCourtModel" (106 : Nat) ({ cls := "MemoryCourtModel", name := "loan0", desc := "(II)I" } : Jvm.MethodName)) ∈ lw_tbl := List.mem_of_getElem? (i := 1513) (by decide +kernel)
theorem tm_1515 : (Jvm.Cond.instanceMethod ({ cls := "MemoryCourtModel", name := "loan0", desc := "(II)I" } : Jvm.MethodName)) ∈ lw_tbl := List.mem_of_getElem? (i := 1515) (by decide +kernel)
theorem tms_47 : (Jvm.Cond.selects "MemoryCourtModel" ({ cls := "MemoryCourtModel", name := "loan0", desc := "(II)I" } : Jvm.MethodName) ({ cls := "MemoryCourtModel", name := "loan0", desc := "(II)I" } : Jvm.MethodName)) ∈ lw_tbl := List.mem_of_getElem? (i := 47) (by decide +kernel)
theorem tm_1516 : (Jvm.Cond.code ({ cls := "MemoryCourtModel", name := "loan0", desc := "(II)I" } : Jvm.MethodName) prog_11_method_19_code (3 : Nat) (Option.some Jvm.ClassFile.FieldType.int)) ∈ lw_tbl := List.mem_of_getElem? (i := 1516) (by decide +kernel)
theorem tm_1509 : (Jvm.Cond.methodLink "MemoryCourtModel" (109 : Nat) ({ cls := "MemoryCourtModel", name := "isBrokenLoan", desc := "(I)Z" } : Jvm.MethodName)) ∈ lw_tbl := List.mem_of_getElem? (i := 1509) (by decide +kernel)
theorem tm_1511 : (Jvm.Cond.instanceMethod ({ cls := "MemoryCourtModel", name := "isBrokenLoan", desc := "(I)Z" } : Jvm.MethodName)) ∈ lw_tbl := List.mem_of_getElem? (i := 1511) (by decide +kernel)
theorem tms_46 : (Jvm.Cond.selects "MemoryCourtModel" ({ cls := "MemoryCourtModel", name := "isBrokenLoan", desc := "(I)Z" } : Jvm.MethodName) ({ cls := "MemoryCourtModel", name := "isBrokenLoan", desc := "(I)Z" } : Jvm.MethodName)) ∈ lw_tbl := List.mem_of_getElem? (i := 46) (by decide +kernel)
theorem tm_1512 : (Jvm.Cond.code ({ cls := "MemoryCourtModel", name := "isBrokenLoan", desc := "(I)Z" } : Jvm.MethodName) prog_11_method_29_code (2 : Nat) (Option.some Jvm.ClassFile.FieldType.boolean)) ∈ lw_tbl := List.mem_of_getElem? (i := 1512) (by decide +kernel)
theorem tm_1322 : (Jvm.Cond.fieldLink "MemoryCourtModel" (117 : Nat) "MemoryCourtModel" "base" "I") ∈ lw_tbl := List.mem_of_getElem? (i := 1322) (by decide +kernel)
theorem tm_1486 : (Jvm.Cond.methodLink "MemoryCourtModel" (120 : Nat) ({ cls := "MemoryCourtModel", name := "process0", desc := "(II)I" } : Jvm.MethodName)) ∈ lw_tbl := List.mem_of_getElem? (i := 1486) (by decide +kernel)
theorem tm_1488 : (Jvm.Cond.instanceMethod ({ cls := "MemoryCourtModel", name := "process0", desc := "(II)I" } : Jvm.MethodName)) ∈ lw_tbl := List.mem_of_getElem? (i := 1488) (by decide +kernel)
theorem tms_41 : (Jvm.Cond.selects "MemoryCourtModel" ({ cls := "MemoryCourtModel", name := "process0", desc := "(II)I" } : Jvm.MethodName) ({ cls := "MemoryCourtModel", name := "process0", desc := "(II)I" } : Jvm.MethodName)) ∈ lw_tbl := List.mem_of_getElem? (i := 41) (by decide +kernel)
theorem tm_1489 : (Jvm.Cond.code ({ cls := "MemoryCourtModel", name := "process0", desc := "(II)I" } : Jvm.MethodName) prog_11_method_17_code (3 : Nat) (Option.some Jvm.ClassFile.FieldType.int)) ∈ lw_tbl := List.mem_of_getElem? (i := 1489) (by decide +kernel)
theorem tm_1528 : (Jvm.Cond.methodLink "MemoryCourtModel" (123 : Nat) ({ cls := "MemoryCourtModel", name := "upwards", desc := "(II)I" } : Jvm.MethodName)) ∈ lw_tbl := List.mem_of_getElem? (i := 1528) (by decide +kernel)
theorem tm_1529 : (Jvm.Cond.static ({ cls := "MemoryCourtModel", name := "upwards", desc := "(II)I" } : Jvm.MethodName)) ∈ lw_tbl := List.mem_of_getElem? (i := 1529) (by decide +kernel)
theorem tm_1530 : (Jvm.Cond.code ({ cls := "MemoryCourtModel", name := "upwards", desc := "(II)I" } : Jvm.MethodName) prog_11_method_8_code (2 : Nat) (Option.some Jvm.ClassFile.FieldType.int)) ∈ lw_tbl := List.mem_of_getElem? (i := 1530) (by decide +kernel)
theorem tm_1531 : (Jvm.Cond.methodLink "MemoryCourtModel" (126 : Nat) ({ cls := "MemoryCourtModel", name := "lesser", desc := "(II)I" } : Jvm.MethodName)) ∈ lw_tbl := List.mem_of_getElem? (i := 1531) (by decide +kernel)
theorem tm_1532 : (Jvm.Cond.static ({ cls := "MemoryCourtModel", name := "lesser", desc := "(II)I" } : Jvm.MethodName)) ∈ lw_tbl := List.mem_of_getElem? (i := 1532) (by decide +kernel)
theorem tm_1533 : (Jvm.Cond.code ({ cls := "MemoryCourtModel", name := "lesser", desc := "(II)I" } : Jvm.MethodName) prog_11_method_6_code (2 : Nat) (Option.some Jvm.ClassFile.FieldType.int)) ∈ lw_tbl := List.mem_of_getElem? (i := 1533) (by decide +kernel)
theorem tm_1494 : (Jvm.Cond.methodLink "MemoryCourtModel" (129 : Nat) ({ cls := "MemoryCourtModel", name := "sets", desc := "(III)V" } : Jvm.MethodName)) ∈ lw_tbl := List.mem_of_getElem? (i := 1494) (by decide +kernel)
theorem tm_1496 : (Jvm.Cond.instanceMethod ({ cls := "MemoryCourtModel", name := "sets", desc := "(III)V" } : Jvm.MethodName)) ∈ lw_tbl := List.mem_of_getElem? (i := 1496) (by decide +kernel)
theorem tms_43 : (Jvm.Cond.selects "MemoryCourtModel" ({ cls := "MemoryCourtModel", name := "sets", desc := "(III)V" } : Jvm.MethodName) ({ cls := "MemoryCourtModel", name := "sets", desc := "(III)V" } : Jvm.MethodName)) ∈ lw_tbl := List.mem_of_getElem? (i := 43) (by decide +kernel)
theorem tm_1497 : (Jvm.Cond.code ({ cls := "MemoryCourtModel", name := "sets", desc := "(III)V" } : Jvm.MethodName) prog_11_method_18_code (4 : Nat) (Option.none : Option Jvm.ClassFile.FieldType)) ∈ lw_tbl := List.mem_of_getElem? (i := 1497) (by decide +kernel)
theorem tm_1335 : (Jvm.Cond.fieldLink "MemoryCourtModel" (32 : Nat) "MemoryCourtModel" "watched" "I") ∈ lw_tbl := List.mem_of_getElem? (i := 1335) (by decide +kernel)
theorem tm_1337 : (Jvm.Cond.fieldLink "MemoryCourtModel" (36 : Nat) "MemoryCourtModel" "payer" "I") ∈ lw_tbl := List.mem_of_getElem? (i := 1337) (by decide +kernel)
theorem tm_1338 : (Jvm.Cond.fieldLink "MemoryCourtModel" (136 : Nat) "MemoryCourtModel" "paid" "I") ∈ lw_tbl := List.mem_of_getElem? (i := 1338) (by decide +kernel)
theorem tm_1336 : (Jvm.Cond.fieldLink "MemoryCourtModel" (133 : Nat) "MemoryCourtModel" "watchedFine" "I") ∈ lw_tbl := List.mem_of_getElem? (i := 1336) (by decide +kernel)
theorem tm_1521 : (Jvm.Cond.methodLink "MemoryCourtModel" (113 : Nat) ({ cls := "MemoryCourtModel", name := "finesFor", desc := "(I)V" } : Jvm.MethodName)) ∈ lw_tbl := List.mem_of_getElem? (i := 1521) (by decide +kernel)
theorem tm_1523 : (Jvm.Cond.instanceMethod ({ cls := "MemoryCourtModel", name := "finesFor", desc := "(I)V" } : Jvm.MethodName)) ∈ lw_tbl := List.mem_of_getElem? (i := 1523) (by decide +kernel)
theorem tms_49 : (Jvm.Cond.selects "MemoryCourtModel" ({ cls := "MemoryCourtModel", name := "finesFor", desc := "(I)V" } : Jvm.MethodName) ({ cls := "MemoryCourtModel", name := "finesFor", desc := "(I)V" } : Jvm.MethodName)) ∈ lw_tbl := List.mem_of_getElem? (i := 49) (by decide +kernel)
theorem tm_1524 : (Jvm.Cond.code ({ cls := "MemoryCourtModel", name := "finesFor", desc := "(I)V" } : Jvm.MethodName) prog_11_method_36_code (7 : Nat) (Option.none : Option Jvm.ClassFile.FieldType)) ∈ lw_tbl := List.mem_of_getElem? (i := 1524) (by decide +kernel)
theorem tm_1545 : (Jvm.Cond.methodLink "MemoryCourtModel" (139 : Nat) ({ cls := "MemoryCourtModel", name := "claim0", desc := "(II)I" } : Jvm.MethodName)) ∈ lw_tbl := List.mem_of_getElem? (i := 1545) (by decide +kernel)
theorem tm_1547 : (Jvm.Cond.instanceMethod ({ cls := "MemoryCourtModel", name := "claim0", desc := "(II)I" } : Jvm.MethodName)) ∈ lw_tbl := List.mem_of_getElem? (i := 1547) (by decide +kernel)
theorem tms_52 : (Jvm.Cond.selects "MemoryCourtModel" ({ cls := "MemoryCourtModel", name := "claim0", desc := "(II)I" } : Jvm.MethodName) ({ cls := "MemoryCourtModel", name := "claim0", desc := "(II)I" } : Jvm.MethodName)) ∈ lw_tbl := List.mem_of_getElem? (i := 52) (by decide +kernel)
theorem tm_1548 : (Jvm.Cond.code ({ cls := "MemoryCourtModel", name := "claim0", desc := "(II)I" } : Jvm.MethodName) prog_11_method_20_code (3 : Nat) (Option.some Jvm.ClassFile.FieldType.int)) ∈ lw_tbl := List.mem_of_getElem? (i := 1548) (by decide +kernel)
theorem tm_1541 : (Jvm.Cond.methodLink "MemoryCourtModel" (142 : Nat) ({ cls := "MemoryCourtModel", name := "doesWait", desc := "(I)Z" } : Jvm.MethodName)) ∈ lw_tbl := List.mem_of_getElem? (i := 1541) (by decide +kernel)
theorem tm_1543 : (Jvm.Cond.instanceMethod ({ cls := "MemoryCourtModel", name := "doesWait", desc := "(I)Z" } : Jvm.MethodName)) ∈ lw_tbl := List.mem_of_getElem? (i := 1543) (by decide +kernel)
theorem tms_51 : (Jvm.Cond.selects "MemoryCourtModel" ({ cls := "MemoryCourtModel", name := "doesWait", desc := "(I)Z" } : Jvm.MethodName) ({ cls := "MemoryCourtModel", name := "doesWait", desc := "(I)Z" } : Jvm.MethodName)) ∈ lw_tbl := List.mem_of_getElem? (i := 51) (by decide +kernel)
theorem tm_1544 : (Jvm.Cond.code ({ cls := "MemoryCourtModel", name := "doesWait", desc := "(I)Z" } : Jvm.MethodName) prog_11_method_38_code (2 : Nat) (Option.some Jvm.ClassFile.FieldType.boolean)) ∈ lw_tbl := List.mem_of_getElem? (i := 1544) (by decide +kernel)
theorem tm_1339 : (Jvm.Cond.fieldLink "MemoryCourtModel" (39 : Nat) "MemoryCourtModel" "row" "[I") ∈ lw_tbl := List.mem_of_getElem? (i := 1339) (by decide +kernel)
theorem tm_1549 : (Jvm.Cond.methodLink "MemoryCourtModel" (145 : Nat) ({ cls := "MemoryCourtModel", name := "rankOf", desc := "(I)I" } : Jvm.MethodName)) ∈ lw_tbl := List.mem_of_getElem? (i := 1549) (by decide +kernel)
theorem tm_1551 : (Jvm.Cond.instanceMethod ({ cls := "MemoryCourtModel", name := "rankOf", desc := "(I)I" } : Jvm.MethodName)) ∈ lw_tbl := List.mem_of_getElem? (i := 1551) (by decide +kernel)
theorem tms_53 : (Jvm.Cond.selects "MemoryCourtModel" ({ cls := "MemoryCourtModel", name := "rankOf", desc := "(I)I" } : Jvm.MethodName) ({ cls := "MemoryCourtModel", name := "rankOf", desc := "(I)I" } : Jvm.MethodName)) ∈ lw_tbl := List.mem_of_getElem? (i := 53) (by decide +kernel)
theorem tm_1552 : (Jvm.Cond.code ({ cls := "MemoryCourtModel", name := "rankOf", desc := "(I)I" } : Jvm.MethodName) prog_11_method_37_code (3 : Nat) (Option.some Jvm.ClassFile.FieldType.int)) ∈ lw_tbl := List.mem_of_getElem? (i := 1552) (by decide +kernel)
theorem tm_1324 : (Jvm.Cond.fieldLink "MemoryCourtModel" (148 : Nat) "MemoryCourtModel" "patience" "I") ∈ lw_tbl := List.mem_of_getElem? (i := 1324) (by decide +kernel)
theorem tm_1573 : (Jvm.Cond.methodLink "MemoryCourtModel" (151 : Nat) ({ cls := "MemoryCourtModel", name := "earliestBroken", desc := "()I" } : Jvm.MethodName)) ∈ lw_tbl := List.mem_of_getElem? (i := 1573) (by decide +kernel)
theorem tm_1575 : (Jvm.Cond.instanceMethod ({ cls := "MemoryCourtModel", name := "earliestBroken", desc := "()I" } : Jvm.MethodName)) ∈ lw_tbl := List.mem_of_getElem? (i := 1575) (by decide +kernel)
theorem tms_59 : (Jvm.Cond.selects "MemoryCourtModel" ({ cls := "MemoryCourtModel", name := "earliestBroken", desc := "()I" } : Jvm.MethodName) ({ cls := "MemoryCourtModel", name := "earliestBroken", desc := "()I" } : Jvm.MethodName)) ∈ lw_tbl := List.mem_of_getElem? (i := 59) (by decide +kernel)
theorem tm_1576 : (Jvm.Cond.code ({ cls := "MemoryCourtModel", name := "earliestBroken", desc := "()I" } : Jvm.MethodName) prog_11_method_31_code (3 : Nat) (Option.some Jvm.ClassFile.FieldType.int)) ∈ lw_tbl := List.mem_of_getElem? (i := 1576) (by decide +kernel)
theorem tm_1577 : (Jvm.Cond.methodLink "MemoryCourtModel" (155 : Nat) ({ cls := "MemoryCourtModel", name := "frees", desc := "(II)V" } : Jvm.MethodName)) ∈ lw_tbl := List.mem_of_getElem? (i := 1577) (by decide +kernel)
theorem tm_1579 : (Jvm.Cond.instanceMethod ({ cls := "MemoryCourtModel", name := "frees", desc := "(II)V" } : Jvm.MethodName)) ∈ lw_tbl := List.mem_of_getElem? (i := 1579) (by decide +kernel)
theorem tms_60 : (Jvm.Cond.selects "MemoryCourtModel" ({ cls := "MemoryCourtModel", name := "frees", desc := "(II)V" } : Jvm.MethodName) ({ cls := "MemoryCourtModel", name := "frees", desc := "(II)V" } : Jvm.MethodName)) ∈ lw_tbl := List.mem_of_getElem? (i := 60) (by decide +kernel)
theorem tm_1580 : (Jvm.Cond.code ({ cls := "MemoryCourtModel", name := "frees", desc := "(II)V" } : Jvm.MethodName) prog_11_method_32_code (5 : Nat) (Option.none : Option Jvm.ClassFile.FieldType)) ∈ lw_tbl := List.mem_of_getElem? (i := 1580) (by decide +kernel)
theorem tm_1585 : (Jvm.Cond.methodLink "MemoryCourtModel" (159 : Nat) ({ cls := "MemoryCourtModel", name := "lends", desc := "([IIIII)V" } : Jvm.MethodName)) ∈ lw_tbl := List.mem_of_getElem? (i := 1585) (by decide +kernel)
theorem tm_1586 : (Jvm.Cond.static ({ cls := "MemoryCourtModel", name := "lends", desc := "([IIIII)V" } : Jvm.MethodName)) ∈ lw_tbl := List.mem_of_getElem? (i := 1586) (by decide +kernel)
theorem tm_1587 : (Jvm.Cond.code ({ cls := "MemoryCourtModel", name := "lends", desc := "([IIIII)V" } : Jvm.MethodName) prog_11_method_33_code (9 : Nat) (Option.none : Option Jvm.ClassFile.FieldType)) ∈ lw_tbl := List.mem_of_getElem? (i := 1587) (by decide +kernel)
theorem tm_1561 : (Jvm.Cond.methodLink "MemoryCourtModel" (166 : Nat) ({ cls := "MemoryCourtModel", name := "free", desc := "()I" } : Jvm.MethodName)) ∈ lw_tbl := List.mem_of_getElem? (i := 1561) (by decide +kernel)
theorem tm_1563 : (Jvm.Cond.instanceMethod ({ cls := "MemoryCourtModel", name := "free", desc := "()I" } : Jvm.MethodName)) ∈ lw_tbl := List.mem_of_getElem? (i := 1563) (by decide +kernel)
theorem tms_56 : (Jvm.Cond.selects "MemoryCourtModel" ({ cls := "MemoryCourtModel", name := "free", desc := "()I" } : Jvm.MethodName) ({ cls := "MemoryCourtModel", name := "free", desc := "()I" } : Jvm.MethodName)) ∈ lw_tbl := List.mem_of_getElem? (i := 56) (by decide +kernel)
theorem tm_1564 : (Jvm.Cond.code ({ cls := "MemoryCourtModel", name := "free", desc := "()I" } : Jvm.MethodName) prog_11_method_28_code (1 : Nat) (Option.some Jvm.ClassFile.FieldType.int)) ∈ lw_tbl := List.mem_of_getElem? (i := 1564) (by decide +kernel)
theorem tm_1581 : (Jvm.Cond.methodLink "MemoryCourtModel" (175 : Nat) ({ cls := "MemoryCourtModel", name := "meets", desc := "(I)V" } : Jvm.MethodName)) ∈ lw_tbl := List.mem_of_getElem? (i := 1581) (by decide +kernel)
theorem tm_1583 : (Jvm.Cond.instanceMethod ({ cls := "MemoryCourtModel", name := "meets", desc := "(I)V" } : Jvm.MethodName)) ∈ lw_tbl := List.mem_of_getElem? (i := 1583) (by decide +kernel)
theorem tms_61 : (Jvm.Cond.selects "MemoryCourtModel" ({ cls := "MemoryCourtModel", name := "meets", desc := "(I)V" } : Jvm.MethodName) ({ cls := "MemoryCourtModel", name := "meets", desc := "(I)V" } : Jvm.MethodName)) ∈ lw_tbl := List.mem_of_getElem? (i := 61) (by decide +kernel)
theorem tm_1584 : (Jvm.Cond.code ({ cls := "MemoryCourtModel", name := "meets", desc := "(I)V" } : Jvm.MethodName) prog_11_method_42_code (4 : Nat) (Option.none : Option Jvm.ClassFile.FieldType)) ∈ lw_tbl := List.mem_of_getElem? (i := 1584) (by decide +kernel)
theorem tm_1569 : (Jvm.Cond.methodLink "MemoryCourtModel" (172 : Nat) ({ cls := "MemoryCourtModel", name := "takesBack", desc := "(I)V" } : Jvm.MethodName)) ∈ lw_tbl := List.mem_of_getElem? (i := 1569) (by decide +kernel)
theorem tm_1571 : (Jvm.Cond.instanceMethod ({ cls := "MemoryCourtModel", name := "takesBack", desc := "(I)V" } : Jvm.MethodName)) ∈ lw_tbl := List.mem_of_getElem? (i := 1571) (by decide +kernel)
theorem tms_58 : (Jvm.Cond.selects "MemoryCourtModel" ({ cls := "MemoryCourtModel", name := "takesBack", desc := "(I)V" } : Jvm.MethodName) ({ cls := "MemoryCourtModel", name := "takesBack", desc := "(I)V" } : Jvm.MethodName)) ∈ lw_tbl := List.mem_of_getElem? (i := 58) (by decide +kernel)
theorem tm_1572 : (Jvm.Cond.code ({ cls := "MemoryCourtModel", name := "takesBack", desc := "(I)V" } : Jvm.MethodName) prog_11_method_41_code (5 : Nat) (Option.none : Option Jvm.ClassFile.FieldType)) ∈ lw_tbl := List.mem_of_getElem? (i := 1572) (by decide +kernel)
theorem tm_1565 : (Jvm.Cond.methodLink "MemoryCourtModel" (169 : Nat) ({ cls := "MemoryCourtModel", name := "brokenPages", desc := "()I" } : Jvm.MethodName)) ∈ lw_tbl := List.mem_of_getElem? (i := 1565) (by decide +kernel)
theorem tm_1567 : (Jvm.Cond.instanceMethod ({ cls := "MemoryCourtModel", name := "brokenPages", desc := "()I" } : Jvm.MethodName)) ∈ lw_tbl := List.mem_of_getElem? (i := 1567) (by decide +kernel)
theorem tms_57 : (Jvm.Cond.selects "MemoryCourtModel" ({ cls := "MemoryCourtModel", name := "brokenPages", desc := "()I" } : Jvm.MethodName) ({ cls := "MemoryCourtModel", name := "brokenPages", desc := "()I" } : Jvm.MethodName)) ∈ lw_tbl := List.mem_of_getElem? (i := 57) (by decide +kernel)
theorem tm_1568 : (Jvm.Cond.code ({ cls := "MemoryCourtModel", name := "brokenPages", desc := "()I" } : Jvm.MethodName) prog_11_method_30_code (3 : Nat) (Option.some Jvm.ClassFile.FieldType.int)) ∈ lw_tbl := List.mem_of_getElem? (i := 1568) (by decide +kernel)
theorem tm_1557 : (Jvm.Cond.methodLink "MemoryCourtModel" (163 : Nat) ({ cls := "MemoryCourtModel", name := "putsOff", desc := "(I)V" } : Jvm.MethodName)) ∈ lw_tbl := List.mem_of_getElem? (i := 1557) (by decide +kernel)
theorem tm_1559 : (Jvm.Cond.instanceMethod ({ cls := "MemoryCourtModel", name := "putsOff", desc := "(I)V" } : Jvm.MethodName)) ∈ lw_tbl := List.mem_of_getElem? (i := 1559) (by decide +kernel)
theorem tms_55 : (Jvm.Cond.selects "MemoryCourtModel" ({ cls := "MemoryCourtModel", name := "putsOff", desc := "(I)V" } : Jvm.MethodName) ({ cls := "MemoryCourtModel", name := "putsOff", desc := "(I)V" } : Jvm.MethodName)) ∈ lw_tbl := List.mem_of_getElem? (i := 55) (by decide +kernel)
theorem tm_1560 : (Jvm.Cond.code ({ cls := "MemoryCourtModel", name := "putsOff", desc := "(I)V" } : Jvm.MethodName) prog_11_method_40_code (3 : Nat) (Option.none : Option Jvm.ClassFile.FieldType)) ∈ lw_tbl := List.mem_of_getElem? (i := 1560) (by decide +kernel)
theorem tm_1505 : (Jvm.Cond.methodLink "MemoryCourtModel" (178 : Nat) ({ cls := "MemoryCourtModel", name := "finesAll", desc := "()V" } : Jvm.MethodName)) ∈ lw_tbl := List.mem_of_getElem? (i := 1505) (by decide +kernel)
theorem tm_1507 : (Jvm.Cond.instanceMethod ({ cls := "MemoryCourtModel", name := "finesAll", desc := "()V" } : Jvm.MethodName)) ∈ lw_tbl := List.mem_of_getElem? (i := 1507) (by decide +kernel)
theorem tms_45 : (Jvm.Cond.selects "MemoryCourtModel" ({ cls := "MemoryCourtModel", name := "finesAll", desc := "()V" } : Jvm.MethodName) ({ cls := "MemoryCourtModel", name := "finesAll", desc := "()V" } : Jvm.MethodName)) ∈ lw_tbl := List.mem_of_getElem? (i := 45) (by decide +kernel)
theorem tm_1508 : (Jvm.Cond.code ({ cls := "MemoryCourtModel", name := "finesAll", desc := "()V" } : Jvm.MethodName) prog_11_method_35_code (2 : Nat) (Option.none : Option Jvm.ClassFile.FieldType)) ∈ lw_tbl := List.mem_of_getElem? (i := 1508) (by decide +kernel)
theorem tm_1537 : (Jvm.Cond.methodLink "MemoryCourtModel" (181 : Nat) ({ cls := "MemoryCourtModel", name := "lines", desc := "()I" } : Jvm.MethodName)) ∈ lw_tbl := List.mem_of_getElem? (i := 1537) (by decide +kernel)
theorem tm_1539 : (Jvm.Cond.instanceMethod ({ cls := "MemoryCourtModel", name := "lines", desc := "()I" } : Jvm.MethodName)) ∈ lw_tbl := List.mem_of_getElem? (i := 1539) (by decide +kernel)
theorem tms_50 : (Jvm.Cond.selects "MemoryCourtModel" ({ cls := "MemoryCourtModel", name := "lines", desc := "()I" } : Jvm.MethodName) ({ cls := "MemoryCourtModel", name := "lines", desc := "()I" } : Jvm.MethodName)) ∈ lw_tbl := List.mem_of_getElem? (i := 50) (by decide +kernel)
theorem tm_1540 : (Jvm.Cond.code ({ cls := "MemoryCourtModel", name := "lines", desc := "()I" } : Jvm.MethodName) prog_11_method_39_code (4 : Nat) (Option.some Jvm.ClassFile.FieldType.int)) ∈ lw_tbl := List.mem_of_getElem? (i := 1540) (by decide +kernel)
theorem tm_1553 : (Jvm.Cond.methodLink "MemoryCourtModel" (184 : Nat) ({ cls := "MemoryCourtModel", name := "looksAt", desc := "(I)V" } : Jvm.MethodName)) ∈ lw_tbl := List.mem_of_getElem? (i := 1553) (by decide +kernel)
theorem tm_1555 : (Jvm.Cond.instanceMethod ({ cls := "MemoryCourtModel", name := "looksAt", desc := "(I)V" } : Jvm.MethodName)) ∈ lw_tbl := List.mem_of_getElem? (i := 1555) (by decide +kernel)
theorem tms_54 : (Jvm.Cond.selects "MemoryCourtModel" ({ cls := "MemoryCourtModel", name := "looksAt", desc := "(I)V" } : Jvm.MethodName) ({ cls := "MemoryCourtModel", name := "looksAt", desc := "(I)V" } : Jvm.MethodName)) ∈ lw_tbl := List.mem_of_getElem? (i := 54) (by decide +kernel)
theorem tm_1556 : (Jvm.Cond.code ({ cls := "MemoryCourtModel", name := "looksAt", desc := "(I)V" } : Jvm.MethodName) prog_11_method_43_code (3 : Nat) (Option.none : Option Jvm.ClassFile.FieldType)) ∈ lw_tbl := List.mem_of_getElem? (i := 1556) (by decide +kernel)
theorem tm_1498 : (Jvm.Cond.methodLink "MemoryCourtModel" (199 : Nat) ({ cls := "MemoryCourtModel", name := "wordOf", desc := "(II)I" } : Jvm.MethodName)) ∈ lw_tbl := List.mem_of_getElem? (i := 1498) (by decide +kernel)
theorem tm_1499 : (Jvm.Cond.static ({ cls := "MemoryCourtModel", name := "wordOf", desc := "(II)I" } : Jvm.MethodName)) ∈ lw_tbl := List.mem_of_getElem? (i := 1499) (by decide +kernel)
theorem tm_1500 : (Jvm.Cond.code ({ cls := "MemoryCourtModel", name := "wordOf", desc := "(II)I" } : Jvm.MethodName) prog_11_method_45_code (2 : Nat) (Option.some Jvm.ClassFile.FieldType.int)) ∈ lw_tbl := List.mem_of_getElem? (i := 1500) (by decide +kernel)
theorem tm_1321 : (Jvm.Cond.fieldLink "MemoryCourtModel" (193 : Nat) "MemoryCourtModel" "every" "I") ∈ lw_tbl := List.mem_of_getElem? (i := 1321) (by decide +kernel)
theorem tm_1501 : (Jvm.Cond.methodLink "MemoryCourtModel" (196 : Nat) ({ cls := "MemoryCourtModel", name := "hears", desc := "()V" } : Jvm.MethodName)) ∈ lw_tbl := List.mem_of_getElem? (i := 1501) (by decide +kernel)
theorem tm_1503 : (Jvm.Cond.instanceMethod ({ cls := "MemoryCourtModel", name := "hears", desc := "()V" } : Jvm.MethodName)) ∈ lw_tbl := List.mem_of_getElem? (i := 1503) (by decide +kernel)
theorem tms_44 : (Jvm.Cond.selects "MemoryCourtModel" ({ cls := "MemoryCourtModel", name := "hears", desc := "()V" } : Jvm.MethodName) ({ cls := "MemoryCourtModel", name := "hears", desc := "()V" } : Jvm.MethodName)) ∈ lw_tbl := List.mem_of_getElem? (i := 44) (by decide +kernel)
theorem tm_1504 : (Jvm.Cond.code ({ cls := "MemoryCourtModel", name := "hears", desc := "()V" } : Jvm.MethodName) prog_11_method_44_code (3 : Nat) (Option.none : Option Jvm.ClassFile.FieldType)) ∈ lw_tbl := List.mem_of_getElem? (i := 1504) (by decide +kernel)
theorem tm_1323 : (Jvm.Cond.fieldLink "MemoryCourtModel" (190 : Nat) "MemoryCourtModel" "fade" "I") ∈ lw_tbl := List.mem_of_getElem? (i := 1323) (by decide +kernel)
theorem tm_1490 : (Jvm.Cond.methodLink "MemoryCourtModel" (187 : Nat) ({ cls := "MemoryCourtModel", name := "stands", desc := "(II)V" } : Jvm.MethodName)) ∈ lw_tbl := List.mem_of_getElem? (i := 1490) (by decide +kernel)
theorem tm_1492 : (Jvm.Cond.instanceMethod ({ cls := "MemoryCourtModel", name := "stands", desc := "(II)V" } : Jvm.MethodName)) ∈ lw_tbl := List.mem_of_getElem? (i := 1492) (by decide +kernel)
theorem tms_42 : (Jvm.Cond.selects "MemoryCourtModel" ({ cls := "MemoryCourtModel", name := "stands", desc := "(II)V" } : Jvm.MethodName) ({ cls := "MemoryCourtModel", name := "stands", desc := "(II)V" } : Jvm.MethodName)) ∈ lw_tbl := List.mem_of_getElem? (i := 42) (by decide +kernel)
theorem tm_1493 : (Jvm.Cond.code ({ cls := "MemoryCourtModel", name := "stands", desc := "(II)V" } : Jvm.MethodName) prog_11_method_47_code (3 : Nat) (Option.none : Option Jvm.ClassFile.FieldType)) ∈ lw_tbl := List.mem_of_getElem? (i := 1493) (by decide +kernel)
theorem tm_1482 : (Jvm.Cond.methodLink "MemoryCourtModel" (202 : Nat) ({ cls := "MemoryCourtModel", name := "ticks", desc := "()V" } : Jvm.MethodName)) ∈ lw_tbl := List.mem_of_getElem? (i := 1482) (by decide +kernel)
theorem tm_1484 : (Jvm.Cond.instanceMethod ({ cls := "MemoryCourtModel", name := "ticks", desc := "()V" } : Jvm.MethodName)) ∈ lw_tbl := List.mem_of_getElem? (i := 1484) (by decide +kernel)
theorem tms_40 : (Jvm.Cond.selects "MemoryCourtModel" ({ cls := "MemoryCourtModel", name := "ticks", desc := "()V" } : Jvm.MethodName) ({ cls := "MemoryCourtModel", name := "ticks", desc := "()V" } : Jvm.MethodName)) ∈ lw_tbl := List.mem_of_getElem? (i := 40) (by decide +kernel)
theorem tm_1485 : (Jvm.Cond.code ({ cls := "MemoryCourtModel", name := "ticks", desc := "()V" } : Jvm.MethodName) prog_11_method_46_code (3 : Nat) (Option.none : Option Jvm.ClassFile.FieldType)) ∈ lw_tbl := List.mem_of_getElem? (i := 1485) (by decide +kernel)
theorem tm_1469 : (Jvm.Cond.constantLong "MemoryCourtModel" (205 : Nat) (500 : Int64)) ∈ lw_tbl := List.mem_of_getElem? (i := 1469) (by decide +kernel)
theorem sp_1846 : (Int16.ofInt (1846)).toInt32 = (1846 : Int32) := by decide
theorem sp_12922 : (Int16.ofInt (12922)).toInt32 = (12922 : Int32) := by decide
theorem bp_58 : (Int8.ofInt (58)).toInt32 = (58 : Int32) := by decide
theorem sp_602 : (Int16.ofInt (602)).toInt32 = (602 : Int32) := by decide
theorem sp_1022 : (Int16.ofInt (1022)).toInt32 = (1022 : Int32) := by decide
theorem sp_538 : (Int16.ofInt (538)).toInt32 = (538 : Int32) := by decide
theorem bp_9 : (Int8.ofInt (9)).toInt32 = (9 : Int32) := by decide
theorem sp_1342 : (Int16.ofInt (1342)).toInt32 = (1342 : Int32) := by decide
theorem bp_63 : (Int8.ofInt (63)).toInt32 = (63 : Int32) := by decide
theorem gf_X9_67 {p : Program} {l : Launch} {e : Env} {R : Room} {s : State} {m : MethodId} {args : Array Value} {below : List Frame} {meth : Method} {c : Code} {H : Heap} {locs : List Loc} {cells slots : Nat} {Q : State → Prop} {cc : ByteArray} {pc nL : Nat} {ls : Array Slot} {rest : List Value} {k : KT} {A : Nat → Prop} {ws : va_W} {H0 : Heap} {a : Nat} (E : E0 p s m c cc nL RX9 k A) (hW : WD k A H0 ws H locs) (q0 : Nat) {fs : List Value} (he : ws[q0]? = some (a, .inr (7, fs))) {v : Value} (hv : fs[0]? = some v) (hdg : decode cc pc = .ok (.getfield 67, 3)) (q : W p l e R s m args below meth c H locs cells slots Q (F0 m (pc + 3) ls (v :: rest))) : W p l e R s m args below meth c H locs cells slots Q (F0 m pc ls (.ref a :: rest)) := va_get (C := RX9) (T := TX9) (N := 41) (ci := 7) E.hx E.hb (Ts := wsX90) (fun w hw => E.w (inX9 w hw) (tbl_laysX9 w hw)) (fun _ h => h) E.ho E.hK hW.1 q0 he rfl 0 (by decide) (E.w tm_1318 rfl) (fun _ h => h) hv hdg q
theorem pf_X9_67 {p : Program} {l : Launch} {e : Env} {R : Room} {s : State} {m : MethodId} {args : Array Value} {below : List Frame} {meth : Method} {c : Code} {H : Heap} {locs : List Loc} {cells slots : Nat} {Q : State → Prop} {cc : ByteArray} {pc nL : Nat} {ls : Array Slot} {rest : List Value} {k : KT} {A : Nat → Prop} {ws ws2 : va_W} {H0 : Heap} {a : Nat} (E : E0 p s m c cc nL RX9 k A) (hW : WD k A H0 ws H locs) (q0 : Nat) {fs : List Value} (he : ws[q0]? = some (a, .inr (7, fs))) {v : Value} (hn : narrow (tyX9 0) v = v) (hfit : fits (tyX9 0) v = true) (hl : 0 < fs.length) (hdg : decode cc pc = .ok (.putfield 67, 3)) (hws : ws.set q0 (a, .inr (7, fs.set 0 v)) = ws2) (q : ∀ (H1 : Heap) (locs1 : List Loc), WD k A H0 ws2 H1 locs1 → W p l e R s m args below meth c H1 locs1 cells slots Q (F0 m (pc + 3) ls rest)) : W p l e R s m args below meth c H locs cells slots Q (F0 m pc ls (v :: .ref a :: rest)) := by
  subst hws
  exact va_put (C := RX9) (T := TX9) (N := 41) (ci := 7) (ty := tyX9 0) E.hx E.hb (Ts := wsX90) (fun w hw => E.w (inX9 w hw) (tbl_laysX9 w hw)) (fun _ h => h) tyX9 tyX9_ok nmX9 E.ho E.hK hW.1 hW.2.1 hW.2.2 q0 he rfl 0 (by decide) (E.w tm_1318 rfl) (fun _ h => h) rfl (tyX9_ok 0 (by decide)) hn hfit hl hdg (fun H1 locs1 h1 h2 h3 => q H1 locs1 ⟨h1, h2, h3⟩)
theorem gf_X9_13 {p : Program} {l : Launch} {e : Env} {R : Room} {s : State} {m : MethodId} {args : Array Value} {below : List Frame} {meth : Method} {c : Code} {H : Heap} {locs : List Loc} {cells slots : Nat} {Q : State → Prop} {cc : ByteArray} {pc nL : Nat} {ls : Array Slot} {rest : List Value} {k : KT} {A : Nat → Prop} {ws : va_W} {H0 : Heap} {a : Nat} (E : E0 p s m c cc nL RX9 k A) (hW : WD k A H0 ws H locs) (q0 : Nat) {fs : List Value} (he : ws[q0]? = some (a, .inr (7, fs))) {v : Value} (hv : fs[9]? = some v) (hdg : decode cc pc = .ok (.getfield 13, 3)) (q : W p l e R s m args below meth c H locs cells slots Q (F0 m (pc + 3) ls (v :: rest))) : W p l e R s m args below meth c H locs cells slots Q (F0 m pc ls (.ref a :: rest)) := va_get (C := RX9) (T := TX9) (N := 41) (ci := 7) E.hx E.hb (Ts := wsX90) (fun w hw => E.w (inX9 w hw) (tbl_laysX9 w hw)) (fun _ h => h) E.ho E.hK hW.1 q0 he rfl 9 (by decide) (E.w tm_1327 rfl) (fun _ h => h) hv hdg q
theorem gf_X9_20 {p : Program} {l : Launch} {e : Env} {R : Room} {s : State} {m : MethodId} {args : Array Value} {below : List Frame} {meth : Method} {c : Code} {H : Heap} {locs : List Loc} {cells slots : Nat} {Q : State → Prop} {cc : ByteArray} {pc nL : Nat} {ls : Array Slot} {rest : List Value} {k : KT} {A : Nat → Prop} {ws : va_W} {H0 : Heap} {a : Nat} (E : E0 p s m c cc nL RX9 k A) (hW : WD k A H0 ws H locs) (q0 : Nat) {fs : List Value} (he : ws[q0]? = some (a, .inr (7, fs))) {v : Value} (hv : fs[11]? = some v) (hdg : decode cc pc = .ok (.getfield 20, 3)) (q : W p l e R s m args below meth c H locs cells slots Q (F0 m (pc + 3) ls (v :: rest))) : W p l e R s m args below meth c H locs cells slots Q (F0 m pc ls (.ref a :: rest)) := va_get (C := RX9) (T := TX9) (N := 41) (ci := 7) E.hx E.hb (Ts := wsX90) (fun w hw => E.w (inX9 w hw) (tbl_laysX9 w hw)) (fun _ h => h) E.ho E.hK hW.1 q0 he rfl 11 (by decide) (E.w tm_1329 rfl) (fun _ h => h) hv hdg q
theorem gf_X9_74 {p : Program} {l : Launch} {e : Env} {R : Room} {s : State} {m : MethodId} {args : Array Value} {below : List Frame} {meth : Method} {c : Code} {H : Heap} {locs : List Loc} {cells slots : Nat} {Q : State → Prop} {cc : ByteArray} {pc nL : Nat} {ls : Array Slot} {rest : List Value} {k : KT} {A : Nat → Prop} {ws : va_W} {H0 : Heap} {a : Nat} (E : E0 p s m c cc nL RX9 k A) (hW : WD k A H0 ws H locs) (q0 : Nat) {fs : List Value} (he : ws[q0]? = some (a, .inr (7, fs))) {v : Value} (hv : fs[15]? = some v) (hdg : decode cc pc = .ok (.getfield 74, 3)) (q : W p l e R s m args below meth c H locs cells slots Q (F0 m (pc + 3) ls (v :: rest))) : W p l e R s m args below meth c H locs cells slots Q (F0 m pc ls (.ref a :: rest)) := va_get (C := RX9) (T := TX9) (N := 41) (ci := 7) E.hx E.hb (Ts := wsX90) (fun w hw => E.w (inX9 w hw) (tbl_laysX9 w hw)) (fun _ h => h) E.ho E.hK hW.1 q0 he rfl 15 (by decide) (E.w tm_1333 rfl) (fun _ h => h) hv hdg q
theorem pf_X9_74 {p : Program} {l : Launch} {e : Env} {R : Room} {s : State} {m : MethodId} {args : Array Value} {below : List Frame} {meth : Method} {c : Code} {H : Heap} {locs : List Loc} {cells slots : Nat} {Q : State → Prop} {cc : ByteArray} {pc nL : Nat} {ls : Array Slot} {rest : List Value} {k : KT} {A : Nat → Prop} {ws ws2 : va_W} {H0 : Heap} {a : Nat} (E : E0 p s m c cc nL RX9 k A) (hW : WD k A H0 ws H locs) (q0 : Nat) {fs : List Value} (he : ws[q0]? = some (a, .inr (7, fs))) {v : Value} (hn : narrow (tyX9 15) v = v) (hfit : fits (tyX9 15) v = true) (hl : 15 < fs.length) (hdg : decode cc pc = .ok (.putfield 74, 3)) (hws : ws.set q0 (a, .inr (7, fs.set 15 v)) = ws2) (q : ∀ (H1 : Heap) (locs1 : List Loc), WD k A H0 ws2 H1 locs1 → W p l e R s m args below meth c H1 locs1 cells slots Q (F0 m (pc + 3) ls rest)) : W p l e R s m args below meth c H locs cells slots Q (F0 m pc ls (v :: .ref a :: rest)) := by
  subst hws
  exact va_put (C := RX9) (T := TX9) (N := 41) (ci := 7) (ty := tyX9 15) E.hx E.hb (Ts := wsX90) (fun w hw => E.w (inX9 w hw) (tbl_laysX9 w hw)) (fun _ h => h) tyX9 tyX9_ok nmX9 E.ho E.hK hW.1 hW.2.1 hW.2.2 q0 he rfl 15 (by decide) (E.w tm_1333 rfl) (fun _ h => h) rfl (tyX9_ok 15 (by decide)) hn hfit hl hdg (fun H1 locs1 h1 h2 h3 => q H1 locs1 ⟨h1, h2, h3⟩)
theorem gf_X9_29 {p : Program} {l : Launch} {e : Env} {R : Room} {s : State} {m : MethodId} {args : Array Value} {below : List Frame} {meth : Method} {c : Code} {H : Heap} {locs : List Loc} {cells slots : Nat} {Q : State → Prop} {cc : ByteArray} {pc nL : Nat} {ls : Array Slot} {rest : List Value} {k : KT} {A : Nat → Prop} {ws : va_W} {H0 : Heap} {a : Nat} (E : E0 p s m c cc nL RX9 k A) (hW : WD k A H0 ws H locs) (q0 : Nat) {fs : List Value} (he : ws[q0]? = some (a, .inr (7, fs))) {v : Value} (hv : fs[14]? = some v) (hdg : decode cc pc = .ok (.getfield 29, 3)) (q : W p l e R s m args below meth c H locs cells slots Q (F0 m (pc + 3) ls (v :: rest))) : W p l e R s m args below meth c H locs cells slots Q (F0 m pc ls (.ref a :: rest)) := va_get (C := RX9) (T := TX9) (N := 41) (ci := 7) E.hx E.hb (Ts := wsX90) (fun w hw => E.w (inX9 w hw) (tbl_laysX9 w hw)) (fun _ h => h) E.ho E.hK hW.1 q0 he rfl 14 (by decide) (E.w tm_1332 rfl) (fun _ h => h) hv hdg q
theorem gf_X9_26 {p : Program} {l : Launch} {e : Env} {R : Room} {s : State} {m : MethodId} {args : Array Value} {below : List Frame} {meth : Method} {c : Code} {H : Heap} {locs : List Loc} {cells slots : Nat} {Q : State → Prop} {cc : ByteArray} {pc nL : Nat} {ls : Array Slot} {rest : List Value} {k : KT} {A : Nat → Prop} {ws : va_W} {H0 : Heap} {a : Nat} (E : E0 p s m c cc nL RX9 k A) (hW : WD k A H0 ws H locs) (q0 : Nat) {fs : List Value} (he : ws[q0]? = some (a, .inr (7, fs))) {v : Value} (hv : fs[13]? = some v) (hdg : decode cc pc = .ok (.getfield 26, 3)) (q : W p l e R s m args below meth c H locs cells slots Q (F0 m (pc + 3) ls (v :: rest))) : W p l e R s m args below meth c H locs cells slots Q (F0 m pc ls (.ref a :: rest)) := va_get (C := RX9) (T := TX9) (N := 41) (ci := 7) E.hx E.hb (Ts := wsX90) (fun w hw => E.w (inX9 w hw) (tbl_laysX9 w hw)) (fun _ h => h) E.ho E.hK hW.1 q0 he rfl 13 (by decide) (E.w tm_1331 rfl) (fun _ h => h) hv hdg q
theorem pf_X9_81 {p : Program} {l : Launch} {e : Env} {R : Room} {s : State} {m : MethodId} {args : Array Value} {below : List Frame} {meth : Method} {c : Code} {H : Heap} {locs : List Loc} {cells slots : Nat} {Q : State → Prop} {cc : ByteArray} {pc nL : Nat} {ls : Array Slot} {rest : List Value} {k : KT} {A : Nat → Prop} {ws ws2 : va_W} {H0 : Heap} {a : Nat} (E : E0 p s m c cc nL RX9 k A) (hW : WD k A H0 ws H locs) (q0 : Nat) {fs : List Value} (he : ws[q0]? = some (a, .inr (7, fs))) {v : Value} (hn : narrow (tyX9 16) v = v) (hfit : fits (tyX9 16) v = true) (hl : 16 < fs.length) (hdg : decode cc pc = .ok (.putfield 81, 3)) (hws : ws.set q0 (a, .inr (7, fs.set 16 v)) = ws2) (q : ∀ (H1 : Heap) (locs1 : List Loc), WD k A H0 ws2 H1 locs1 → W p l e R s m args below meth c H1 locs1 cells slots Q (F0 m (pc + 3) ls rest)) : W p l e R s m args below meth c H locs cells slots Q (F0 m pc ls (v :: .ref a :: rest)) := by
  subst hws
  exact va_put (C := RX9) (T := TX9) (N := 41) (ci := 7) (ty := tyX9 16) E.hx E.hb (Ts := wsX90) (fun w hw => E.w (inX9 w hw) (tbl_laysX9 w hw)) (fun _ h => h) tyX9 tyX9_ok nmX9 E.ho E.hK hW.1 hW.2.1 hW.2.2 q0 he rfl 16 (by decide) (E.w tm_1334 rfl) (fun _ h => h) rfl (tyX9_ok 16 (by decide)) hn hfit hl hdg (fun H1 locs1 h1 h2 h3 => q H1 locs1 ⟨h1, h2, h3⟩)
theorem gf_X9_81 {p : Program} {l : Launch} {e : Env} {R : Room} {s : State} {m : MethodId} {args : Array Value} {below : List Frame} {meth : Method} {c : Code} {H : Heap} {locs : List Loc} {cells slots : Nat} {Q : State → Prop} {cc : ByteArray} {pc nL : Nat} {ls : Array Slot} {rest : List Value} {k : KT} {A : Nat → Prop} {ws : va_W} {H0 : Heap} {a : Nat} (E : E0 p s m c cc nL RX9 k A) (hW : WD k A H0 ws H locs) (q0 : Nat) {fs : List Value} (he : ws[q0]? = some (a, .inr (7, fs))) {v : Value} (hv : fs[16]? = some v) (hdg : decode cc pc = .ok (.getfield 81, 3)) (q : W p l e R s m args below meth c H locs cells slots Q (F0 m (pc + 3) ls (v :: rest))) : W p l e R s m args below meth c H locs cells slots Q (F0 m pc ls (.ref a :: rest)) := va_get (C := RX9) (T := TX9) (N := 41) (ci := 7) E.hx E.hb (Ts := wsX90) (fun w hw => E.w (inX9 w hw) (tbl_laysX9 w hw)) (fun _ h => h) E.ho E.hK hW.1 q0 he rfl 16 (by decide) (E.w tm_1334 rfl) (fun _ h => h) hv hdg q
theorem gf_X9_23 {p : Program} {l : Launch} {e : Env} {R : Room} {s : State} {m : MethodId} {args : Array Value} {below : List Frame} {meth : Method} {c : Code} {H : Heap} {locs : List Loc} {cells slots : Nat} {Q : State → Prop} {cc : ByteArray} {pc nL : Nat} {ls : Array Slot} {rest : List Value} {k : KT} {A : Nat → Prop} {ws : va_W} {H0 : Heap} {a : Nat} (E : E0 p s m c cc nL RX9 k A) (hW : WD k A H0 ws H locs) (q0 : Nat) {fs : List Value} (he : ws[q0]? = some (a, .inr (7, fs))) {v : Value} (hv : fs[12]? = some v) (hdg : decode cc pc = .ok (.getfield 23, 3)) (q : W p l e R s m args below meth c H locs cells slots Q (F0 m (pc + 3) ls (v :: rest))) : W p l e R s m args below meth c H locs cells slots Q (F0 m pc ls (.ref a :: rest)) := va_get (C := RX9) (T := TX9) (N := 41) (ci := 7) E.hx E.hb (Ts := wsX90) (fun w hw => E.w (inX9 w hw) (tbl_laysX9 w hw)) (fun _ h => h) E.ho E.hK hW.1 q0 he rfl 12 (by decide) (E.w tm_1330 rfl) (fun _ h => h) hv hdg q
theorem gf_X9_89 {p : Program} {l : Launch} {e : Env} {R : Room} {s : State} {m : MethodId} {args : Array Value} {below : List Frame} {meth : Method} {c : Code} {H : Heap} {locs : List Loc} {cells slots : Nat} {Q : State → Prop} {cc : ByteArray} {pc nL : Nat} {ls : Array Slot} {rest : List Value} {k : KT} {A : Nat → Prop} {ws : va_W} {H0 : Heap} {a : Nat} (E : E0 p s m c cc nL RX9 k A) (hW : WD k A H0 ws H locs) (q0 : Nat) {fs : List Value} (he : ws[q0]? = some (a, .inr (7, fs))) {v : Value} (hv : fs[2]? = some v) (hdg : decode cc pc = .ok (.getfield 89, 3)) (q : W p l e R s m args below meth c H locs cells slots Q (F0 m (pc + 3) ls (v :: rest))) : W p l e R s m args below meth c H locs cells slots Q (F0 m pc ls (.ref a :: rest)) := va_get (C := RX9) (T := TX9) (N := 41) (ci := 7) E.hx E.hb (Ts := wsX90) (fun w hw => E.w (inX9 w hw) (tbl_laysX9 w hw)) (fun _ h => h) E.ho E.hK hW.1 q0 he rfl 2 (by decide) (E.w tm_1320 rfl) (fun _ h => h) hv hdg q
theorem gf_X9_100 {p : Program} {l : Launch} {e : Env} {R : Room} {s : State} {m : MethodId} {args : Array Value} {below : List Frame} {meth : Method} {c : Code} {H : Heap} {locs : List Loc} {cells slots : Nat} {Q : State → Prop} {cc : ByteArray} {pc nL : Nat} {ls : Array Slot} {rest : List Value} {k : KT} {A : Nat → Prop} {ws : va_W} {H0 : Heap} {a : Nat} (E : E0 p s m c cc nL RX9 k A) (hW : WD k A H0 ws H locs) (q0 : Nat) {fs : List Value} (he : ws[q0]? = some (a, .inr (7, fs))) {v : Value} (hv : fs[1]? = some v) (hdg : decode cc pc = .ok (.getfield 100, 3)) (q : W p l e R s m args below meth c H locs cells slots Q (F0 m (pc + 3) ls (v :: rest))) : W p l e R s m args below meth c H locs cells slots Q (F0 m pc ls (.ref a :: rest)) := va_get (C := RX9) (T := TX9) (N := 41) (ci := 7) E.hx E.hb (Ts := wsX90) (fun w hw => E.w (inX9 w hw) (tbl_laysX9 w hw)) (fun _ h => h) E.ho E.hK hW.1 q0 he rfl 1 (by decide) (E.w tm_1319 rfl) (fun _ h => h) hv hdg q
theorem gf_X9_117 {p : Program} {l : Launch} {e : Env} {R : Room} {s : State} {m : MethodId} {args : Array Value} {below : List Frame} {meth : Method} {c : Code} {H : Heap} {locs : List Loc} {cells slots : Nat} {Q : State → Prop} {cc : ByteArray} {pc nL : Nat} {ls : Array Slot} {rest : List Value} {k : KT} {A : Nat → Prop} {ws : va_W} {H0 : Heap} {a : Nat} (E : E0 p s m c cc nL RX9 k A) (hW : WD k A H0 ws H locs) (q0 : Nat) {fs : List Value} (he : ws[q0]? = some (a, .inr (7, fs))) {v : Value} (hv : fs[4]? = some v) (hdg : decode cc pc = .ok (.getfield 117, 3)) (q : W p l e R s m args below meth c H locs cells slots Q (F0 m (pc + 3) ls (v :: rest))) : W p l e R s m args below meth c H locs cells slots Q (F0 m pc ls (.ref a :: rest)) := va_get (C := RX9) (T := TX9) (N := 41) (ci := 7) E.hx E.hb (Ts := wsX90) (fun w hw => E.w (inX9 w hw) (tbl_laysX9 w hw)) (fun _ h => h) E.ho E.hK hW.1 q0 he rfl 4 (by decide) (E.w tm_1322 rfl) (fun _ h => h) hv hdg q
theorem gf_X9_32 {p : Program} {l : Launch} {e : Env} {R : Room} {s : State} {m : MethodId} {args : Array Value} {below : List Frame} {meth : Method} {c : Code} {H : Heap} {locs : List Loc} {cells slots : Nat} {Q : State → Prop} {cc : ByteArray} {pc nL : Nat} {ls : Array Slot} {rest : List Value} {k : KT} {A : Nat → Prop} {ws : va_W} {H0 : Heap} {a : Nat} (E : E0 p s m c cc nL RX9 k A) (hW : WD k A H0 ws H locs) (q0 : Nat) {fs : List Value} (he : ws[q0]? = some (a, .inr (7, fs))) {v : Value} (hv : fs[17]? = some v) (hdg : decode cc pc = .ok (.getfield 32, 3)) (q : W p l e R s m args below meth c H locs cells slots Q (F0 m (pc + 3) ls (v :: rest))) : W p l e R s m args below meth c H locs cells slots Q (F0 m pc ls (.ref a :: rest)) := va_get (C := RX9) (T := TX9) (N := 41) (ci := 7) E.hx E.hb (Ts := wsX90) (fun w hw => E.w (inX9 w hw) (tbl_laysX9 w hw)) (fun _ h => h) E.ho E.hK hW.1 q0 he rfl 17 (by decide) (E.w tm_1335 rfl) (fun _ h => h) hv hdg q
theorem gf_X9_36 {p : Program} {l : Launch} {e : Env} {R : Room} {s : State} {m : MethodId} {args : Array Value} {below : List Frame} {meth : Method} {c : Code} {H : Heap} {locs : List Loc} {cells slots : Nat} {Q : State → Prop} {cc : ByteArray} {pc nL : Nat} {ls : Array Slot} {rest : List Value} {k : KT} {A : Nat → Prop} {ws : va_W} {H0 : Heap} {a : Nat} (E : E0 p s m c cc nL RX9 k A) (hW : WD k A H0 ws H locs) (q0 : Nat) {fs : List Value} (he : ws[q0]? = some (a, .inr (7, fs))) {v : Value} (hv : fs[19]? = some v) (hdg : decode cc pc = .ok (.getfield 36, 3)) (q : W p l e R s m args below meth c H locs cells slots Q (F0 m (pc + 3) ls (v :: rest))) : W p l e R s m args below meth c H locs cells slots Q (F0 m pc ls (.ref a :: rest)) := va_get (C := RX9) (T := TX9) (N := 41) (ci := 7) E.hx E.hb (Ts := wsX90) (fun w hw => E.w (inX9 w hw) (tbl_laysX9 w hw)) (fun _ h => h) E.ho E.hK hW.1 q0 he rfl 19 (by decide) (E.w tm_1337 rfl) (fun _ h => h) hv hdg q
theorem gf_X9_136 {p : Program} {l : Launch} {e : Env} {R : Room} {s : State} {m : MethodId} {args : Array Value} {below : List Frame} {meth : Method} {c : Code} {H : Heap} {locs : List Loc} {cells slots : Nat} {Q : State → Prop} {cc : ByteArray} {pc nL : Nat} {ls : Array Slot} {rest : List Value} {k : KT} {A : Nat → Prop} {ws : va_W} {H0 : Heap} {a : Nat} (E : E0 p s m c cc nL RX9 k A) (hW : WD k A H0 ws H locs) (q0 : Nat) {fs : List Value} (he : ws[q0]? = some (a, .inr (7, fs))) {v : Value} (hv : fs[20]? = some v) (hdg : decode cc pc = .ok (.getfield 136, 3)) (q : W p l e R s m args below meth c H locs cells slots Q (F0 m (pc + 3) ls (v :: rest))) : W p l e R s m args below meth c H locs cells slots Q (F0 m pc ls (.ref a :: rest)) := va_get (C := RX9) (T := TX9) (N := 41) (ci := 7) E.hx E.hb (Ts := wsX90) (fun w hw => E.w (inX9 w hw) (tbl_laysX9 w hw)) (fun _ h => h) E.ho E.hK hW.1 q0 he rfl 20 (by decide) (E.w tm_1338 rfl) (fun _ h => h) hv hdg q
theorem pf_X9_136 {p : Program} {l : Launch} {e : Env} {R : Room} {s : State} {m : MethodId} {args : Array Value} {below : List Frame} {meth : Method} {c : Code} {H : Heap} {locs : List Loc} {cells slots : Nat} {Q : State → Prop} {cc : ByteArray} {pc nL : Nat} {ls : Array Slot} {rest : List Value} {k : KT} {A : Nat → Prop} {ws ws2 : va_W} {H0 : Heap} {a : Nat} (E : E0 p s m c cc nL RX9 k A) (hW : WD k A H0 ws H locs) (q0 : Nat) {fs : List Value} (he : ws[q0]? = some (a, .inr (7, fs))) {v : Value} (hn : narrow (tyX9 20) v = v) (hfit : fits (tyX9 20) v = true) (hl : 20 < fs.length) (hdg : decode cc pc = .ok (.putfield 136, 3)) (hws : ws.set q0 (a, .inr (7, fs.set 20 v)) = ws2) (q : ∀ (H1 : Heap) (locs1 : List Loc), WD k A H0 ws2 H1 locs1 → W p l e R s m args below meth c H1 locs1 cells slots Q (F0 m (pc + 3) ls rest)) : W p l e R s m args below meth c H locs cells slots Q (F0 m pc ls (v :: .ref a :: rest)) := by
  subst hws
  exact va_put (C := RX9) (T := TX9) (N := 41) (ci := 7) (ty := tyX9 20) E.hx E.hb (Ts := wsX90) (fun w hw => E.w (inX9 w hw) (tbl_laysX9 w hw)) (fun _ h => h) tyX9 tyX9_ok nmX9 E.ho E.hK hW.1 hW.2.1 hW.2.2 q0 he rfl 20 (by decide) (E.w tm_1338 rfl) (fun _ h => h) rfl (tyX9_ok 20 (by decide)) hn hfit hl hdg (fun H1 locs1 h1 h2 h3 => q H1 locs1 ⟨h1, h2, h3⟩)
theorem pf_X9_133 {p : Program} {l : Launch} {e : Env} {R : Room} {s : State} {m : MethodId} {args : Array Value} {below : List Frame} {meth : Method} {c : Code} {H : Heap} {locs : List Loc} {cells slots : Nat} {Q : State → Prop} {cc : ByteArray} {pc nL : Nat} {ls : Array Slot} {rest : List Value} {k : KT} {A : Nat → Prop} {ws ws2 : va_W} {H0 : Heap} {a : Nat} (E : E0 p s m c cc nL RX9 k A) (hW : WD k A H0 ws H locs) (q0 : Nat) {fs : List Value} (he : ws[q0]? = some (a, .inr (7, fs))) {v : Value} (hn : narrow (tyX9 18) v = v) (hfit : fits (tyX9 18) v = true) (hl : 18 < fs.length) (hdg : decode cc pc = .ok (.putfield 133, 3)) (hws : ws.set q0 (a, .inr (7, fs.set 18 v)) = ws2) (q : ∀ (H1 : Heap) (locs1 : List Loc), WD k A H0 ws2 H1 locs1 → W p l e R s m args below meth c H1 locs1 cells slots Q (F0 m (pc + 3) ls rest)) : W p l e R s m args below meth c H locs cells slots Q (F0 m pc ls (v :: .ref a :: rest)) := by
  subst hws
  exact va_put (C := RX9) (T := TX9) (N := 41) (ci := 7) (ty := tyX9 18) E.hx E.hb (Ts := wsX90) (fun w hw => E.w (inX9 w hw) (tbl_laysX9 w hw)) (fun _ h => h) tyX9 tyX9_ok nmX9 E.ho E.hK hW.1 hW.2.1 hW.2.2 q0 he rfl 18 (by decide) (E.w tm_1336 rfl) (fun _ h => h) rfl (tyX9_ok 18 (by decide)) hn hfit hl hdg (fun H1 locs1 h1 h2 h3 => q H1 locs1 ⟨h1, h2, h3⟩)
theorem gf_X9_39 {p : Program} {l : Launch} {e : Env} {R : Room} {s : State} {m : MethodId} {args : Array Value} {below : List Frame} {meth : Method} {c : Code} {H : Heap} {locs : List Loc} {cells slots : Nat} {Q : State → Prop} {cc : ByteArray} {pc nL : Nat} {ls : Array Slot} {rest : List Value} {k : KT} {A : Nat → Prop} {ws : va_W} {H0 : Heap} {a : Nat} (E : E0 p s m c cc nL RX9 k A) (hW : WD k A H0 ws H locs) (q0 : Nat) {fs : List Value} (he : ws[q0]? = some (a, .inr (7, fs))) {v : Value} (hv : fs[21]? = some v) (hdg : decode cc pc = .ok (.getfield 39, 3)) (q : W p l e R s m args below meth c H locs cells slots Q (F0 m (pc + 3) ls (v :: rest))) : W p l e R s m args below meth c H locs cells slots Q (F0 m pc ls (.ref a :: rest)) := va_get (C := RX9) (T := TX9) (N := 41) (ci := 7) E.hx E.hb (Ts := wsX90) (fun w hw => E.w (inX9 w hw) (tbl_laysX9 w hw)) (fun _ h => h) E.ho E.hK hW.1 q0 he rfl 21 (by decide) (E.w tm_1339 rfl) (fun _ h => h) hv hdg q
theorem gf_X9_148 {p : Program} {l : Launch} {e : Env} {R : Room} {s : State} {m : MethodId} {args : Array Value} {below : List Frame} {meth : Method} {c : Code} {H : Heap} {locs : List Loc} {cells slots : Nat} {Q : State → Prop} {cc : ByteArray} {pc nL : Nat} {ls : Array Slot} {rest : List Value} {k : KT} {A : Nat → Prop} {ws : va_W} {H0 : Heap} {a : Nat} (E : E0 p s m c cc nL RX9 k A) (hW : WD k A H0 ws H locs) (q0 : Nat) {fs : List Value} (he : ws[q0]? = some (a, .inr (7, fs))) {v : Value} (hv : fs[6]? = some v) (hdg : decode cc pc = .ok (.getfield 148, 3)) (q : W p l e R s m args below meth c H locs cells slots Q (F0 m (pc + 3) ls (v :: rest))) : W p l e R s m args below meth c H locs cells slots Q (F0 m pc ls (.ref a :: rest)) := va_get (C := RX9) (T := TX9) (N := 41) (ci := 7) E.hx E.hb (Ts := wsX90) (fun w hw => E.w (inX9 w hw) (tbl_laysX9 w hw)) (fun _ h => h) E.ho E.hK hW.1 q0 he rfl 6 (by decide) (E.w tm_1324 rfl) (fun _ h => h) hv hdg q
theorem gf_X9_193 {p : Program} {l : Launch} {e : Env} {R : Room} {s : State} {m : MethodId} {args : Array Value} {below : List Frame} {meth : Method} {c : Code} {H : Heap} {locs : List Loc} {cells slots : Nat} {Q : State → Prop} {cc : ByteArray} {pc nL : Nat} {ls : Array Slot} {rest : List Value} {k : KT} {A : Nat → Prop} {ws : va_W} {H0 : Heap} {a : Nat} (E : E0 p s m c cc nL RX9 k A) (hW : WD k A H0 ws H locs) (q0 : Nat) {fs : List Value} (he : ws[q0]? = some (a, .inr (7, fs))) {v : Value} (hv : fs[3]? = some v) (hdg : decode cc pc = .ok (.getfield 193, 3)) (q : W p l e R s m args below meth c H locs cells slots Q (F0 m (pc + 3) ls (v :: rest))) : W p l e R s m args below meth c H locs cells slots Q (F0 m pc ls (.ref a :: rest)) := va_get (C := RX9) (T := TX9) (N := 41) (ci := 7) E.hx E.hb (Ts := wsX90) (fun w hw => E.w (inX9 w hw) (tbl_laysX9 w hw)) (fun _ h => h) E.ho E.hK hW.1 q0 he rfl 3 (by decide) (E.w tm_1321 rfl) (fun _ h => h) hv hdg q
theorem gf_X9_190 {p : Program} {l : Launch} {e : Env} {R : Room} {s : State} {m : MethodId} {args : Array Value} {below : List Frame} {meth : Method} {c : Code} {H : Heap} {locs : List Loc} {cells slots : Nat} {Q : State → Prop} {cc : ByteArray} {pc nL : Nat} {ls : Array Slot} {rest : List Value} {k : KT} {A : Nat → Prop} {ws : va_W} {H0 : Heap} {a : Nat} (E : E0 p s m c cc nL RX9 k A) (hW : WD k A H0 ws H locs) (q0 : Nat) {fs : List Value} (he : ws[q0]? = some (a, .inr (7, fs))) {v : Value} (hv : fs[5]? = some v) (hdg : decode cc pc = .ok (.getfield 190, 3)) (q : W p l e R s m args below meth c H locs cells slots Q (F0 m (pc + 3) ls (v :: rest))) : W p l e R s m args below meth c H locs cells slots Q (F0 m pc ls (.ref a :: rest)) := va_get (C := RX9) (T := TX9) (N := 41) (ci := 7) E.hx E.hb (Ts := wsX90) (fun w hw => E.w (inX9 w hw) (tbl_laysX9 w hw)) (fun _ h => h) E.ho E.hK hW.1 q0 he rfl 5 (by decide) (E.w tm_1323 rfl) (fun _ h => h) hv hdg q
theorem sl_X9_70 : SL RX9 70 yX9_copies cX9_copies 3 none 2 := ⟨⟨tm_1315, tm_1316, tm_119, tm_1317⟩, by decide +kernel⟩
theorem vl_X9_77 : VL RX9 77 RX9 yX9_is cX9_is 2 (some .boolean) 1 := ⟨⟨tm_1450, tm_1452, tms_36, tm_119, tm_1453⟩, by decide +kernel⟩
theorem sl_X9_85 : SL RX9 85 yX9_fineAt cX9_fineAt 1 (some .int) 1 := ⟨⟨tm_1534, tm_1535, tm_119, tm_1536⟩, by decide +kernel⟩
theorem sl_X9_92 : SL RX9 92 yX9_isIn cX9_isIn 6 (some .boolean) 3 := ⟨⟨tm_1308, tm_1309, tm_119, tm_1310⟩, by decide +kernel⟩
theorem sl_X9_96 : SL RX9 96 yX9_greater cX9_greater 2 (some .int) 2 := ⟨⟨tm_1525, tm_1526, tm_119, tm_1527⟩, by decide +kernel⟩
theorem vl_X9_103 : VL RX9 103 RX9 yX9_pagesOf cX9_pagesOf 4 (some .int) 1 := ⟨⟨tm_1517, tm_1519, tms_48, tm_119, tm_1520⟩, by decide +kernel⟩
theorem vl_X9_106 : VL RX9 106 RX9 yX9_loan0 cX9_loan0 3 (some .int) 2 := ⟨⟨tm_1513, tm_1515, tms_47, tm_119, tm_1516⟩, by decide +kernel⟩
theorem vl_X9_109 : VL RX9 109 RX9 yX9_isBrokenLoan cX9_isBrokenLoan 2 (some .boolean) 1 := ⟨⟨tm_1509, tm_1511, tms_46, tm_119, tm_1512⟩, by decide +kernel⟩
theorem vl_X9_120 : VL RX9 120 RX9 yX9_process0 cX9_process0 3 (some .int) 2 := ⟨⟨tm_1486, tm_1488, tms_41, tm_119, tm_1489⟩, by decide +kernel⟩
theorem sl_X9_123 : SL RX9 123 yX9_upwards cX9_upwards 2 (some .int) 2 := ⟨⟨tm_1528, tm_1529, tm_119, tm_1530⟩, by decide +kernel⟩
theorem sl_X9_126 : SL RX9 126 yX9_lesser cX9_lesser 2 (some .int) 2 := ⟨⟨tm_1531, tm_1532, tm_119, tm_1533⟩, by decide +kernel⟩
theorem vl_X9_129 : VL RX9 129 RX9 yX9_sets cX9_sets 4 none 3 := ⟨⟨tm_1494, tm_1496, tms_43, tm_119, tm_1497⟩, by decide +kernel⟩
theorem vl_X9_113 : VL RX9 113 RX9 yX9_finesFor cX9_finesFor 7 none 1 := ⟨⟨tm_1521, tm_1523, tms_49, tm_119, tm_1524⟩, by decide +kernel⟩
theorem vl_X9_139 : VL RX9 139 RX9 yX9_claim0 cX9_claim0 3 (some .int) 2 := ⟨⟨tm_1545, tm_1547, tms_52, tm_119, tm_1548⟩, by decide +kernel⟩
theorem vl_X9_142 : VL RX9 142 RX9 yX9_doesWait cX9_doesWait 2 (some .boolean) 1 := ⟨⟨tm_1541, tm_1543, tms_51, tm_119, tm_1544⟩, by decide +kernel⟩
theorem vl_X9_145 : VL RX9 145 RX9 yX9_rankOf cX9_rankOf 3 (some .int) 1 := ⟨⟨tm_1549, tm_1551, tms_53, tm_119, tm_1552⟩, by decide +kernel⟩
theorem vl_X9_151 : VL RX9 151 RX9 yX9_earliestBroken cX9_earliestBroken 3 (some .int) 0 := ⟨⟨tm_1573, tm_1575, tms_59, tm_119, tm_1576⟩, by decide +kernel⟩
theorem vl_X9_155 : VL RX9 155 RX9 yX9_frees cX9_frees 5 none 2 := ⟨⟨tm_1577, tm_1579, tms_60, tm_119, tm_1580⟩, by decide +kernel⟩
theorem sl_X9_159 : SL RX9 159 yX9_lends cX9_lends 9 none 5 := ⟨⟨tm_1585, tm_1586, tm_119, tm_1587⟩, by decide +kernel⟩
theorem vl_X9_166 : VL RX9 166 RX9 yX9_free cX9_free 1 (some .int) 0 := ⟨⟨tm_1561, tm_1563, tms_56, tm_119, tm_1564⟩, by decide +kernel⟩
theorem vl_X9_175 : VL RX9 175 RX9 yX9_meets cX9_meets 4 none 1 := ⟨⟨tm_1581, tm_1583, tms_61, tm_119, tm_1584⟩, by decide +kernel⟩
theorem vl_X9_172 : VL RX9 172 RX9 yX9_takesBack cX9_takesBack 5 none 1 := ⟨⟨tm_1569, tm_1571, tms_58, tm_119, tm_1572⟩, by decide +kernel⟩
theorem vl_X9_169 : VL RX9 169 RX9 yX9_brokenPages cX9_brokenPages 3 (some .int) 0 := ⟨⟨tm_1565, tm_1567, tms_57, tm_119, tm_1568⟩, by decide +kernel⟩
theorem vl_X9_163 : VL RX9 163 RX9 yX9_putsOff cX9_putsOff 3 none 1 := ⟨⟨tm_1557, tm_1559, tms_55, tm_119, tm_1560⟩, by decide +kernel⟩
theorem vl_X9_178 : VL RX9 178 RX9 yX9_finesAll cX9_finesAll 2 none 0 := ⟨⟨tm_1505, tm_1507, tms_45, tm_119, tm_1508⟩, by decide +kernel⟩
theorem vl_X9_181 : VL RX9 181 RX9 yX9_lines cX9_lines 4 (some .int) 0 := ⟨⟨tm_1537, tm_1539, tms_50, tm_119, tm_1540⟩, by decide +kernel⟩
theorem vl_X9_184 : VL RX9 184 RX9 yX9_looksAt cX9_looksAt 3 none 1 := ⟨⟨tm_1553, tm_1555, tms_54, tm_119, tm_1556⟩, by decide +kernel⟩
theorem sl_X9_199 : SL RX9 199 yX9_wordOf cX9_wordOf 2 (some .int) 2 := ⟨⟨tm_1498, tm_1499, tm_119, tm_1500⟩, by decide +kernel⟩
theorem vl_X9_196 : VL RX9 196 RX9 yX9_hears cX9_hears 3 none 0 := ⟨⟨tm_1501, tm_1503, tms_44, tm_119, tm_1504⟩, by decide +kernel⟩
theorem vl_X9_187 : VL RX9 187 RX9 yX9_stands cX9_stands 3 none 2 := ⟨⟨tm_1490, tm_1492, tms_42, tm_119, tm_1493⟩, by decide +kernel⟩
theorem vl_X9_202 : VL RX9 202 RX9 yX9_ticks cX9_ticks 3 none 0 := ⟨⟨tm_1482, tm_1484, tms_40, tm_119, tm_1485⟩, by decide +kernel⟩
theorem dX9_thrown_0 : decode cX9_thrown 0 = .ok (.aload_n 0, 1) := by decide +kernel
theorem dX9_thrown_1 : decode cX9_thrown 1 = .ok (.getfield 67, 3) := by decide +kernel
theorem dX9_thrown_4 : decode cX9_thrown 4 = .ok (.ireturn, 1) := by decide +kernel
theorem dX9_is_0 : decode cX9_is 0 = .ok (.aload_n 0, 1) := by decide +kernel
theorem dX9_is_1 : decode cX9_is 1 = .ok (.iload_n 1, 1) := by decide +kernel
theorem dX9_is_2 : decode cX9_is 2 = .ok (.ifCond .eq 7, 3) := by decide +kernel
theorem dX9_is_5 : decode cX9_is 5 = .ok (.iconst 0, 1) := by decide +kernel
theorem dX9_is_6 : decode cX9_is 6 = .ok (.goto 4, 3) := by decide +kernel
theorem dX9_is_9 : decode cX9_is 9 = .ok (.iconst 1, 1) := by decide +kernel
theorem dX9_is_10 : decode cX9_is 10 = .ok (.putfield 67, 3) := by decide +kernel
theorem dX9_is_13 : decode cX9_is 13 = .ok (.iload_n 1, 1) := by decide +kernel
theorem dX9_is_14 : decode cX9_is 14 = .ok (.ireturn, 1) := by decide +kernel
theorem dX9_may_0 : decode cX9_may 0 = .ok (.aload_n 0, 1) := by decide +kernel
theorem dX9_may_1 : decode cX9_may 1 = .ok (.iload_n 1, 1) := by decide +kernel
theorem dX9_may_2 : decode cX9_may 2 = .ok (.ifCond .eq 7, 3) := by decide +kernel
theorem dX9_may_5 : decode cX9_may 5 = .ok (.iconst 0, 1) := by decide +kernel
theorem dX9_may_6 : decode cX9_may 6 = .ok (.goto 4, 3) := by decide +kernel
theorem dX9_may_9 : decode cX9_may 9 = .ok (.iload_n 2, 1) := by decide +kernel
theorem dX9_may_10 : decode cX9_may 10 = .ok (.putfield 67, 3) := by decide +kernel
theorem dX9_may_13 : decode cX9_may 13 = .ok (.iload_n 1, 1) := by decide +kernel
theorem dX9_may_14 : decode cX9_may 14 = .ok (.ireturn, 1) := by decide +kernel
theorem dX9_isIn_0 : decode cX9_isIn 0 = .ok (.lload_n 0, 1) := by decide +kernel
theorem dX9_isIn_1 : decode cX9_isIn 1 = .ok (.lload_n 2, 1) := by decide +kernel
theorem dX9_isIn_2 : decode cX9_isIn 2 = .ok (.lcmp, 1) := by decide +kernel
theorem dX9_isIn_3 : decode cX9_isIn 3 = .ok (.ifCond .lt 14, 3) := by decide +kernel
theorem dX9_isIn_6 : decode cX9_isIn 6 = .ok (.lload_n 0, 1) := by decide +kernel
theorem dX9_isIn_7 : decode cX9_isIn 7 = .ok (.lload 4, 2) := by decide +kernel
theorem dX9_isIn_9 : decode cX9_isIn 9 = .ok (.lcmp, 1) := by decide +kernel
theorem dX9_isIn_10 : decode cX9_isIn 10 = .ok (.ifCond .gt 7, 3) := by decide +kernel
theorem dX9_isIn_13 : decode cX9_isIn 13 = .ok (.iconst 1, 1) := by decide +kernel
theorem dX9_isIn_14 : decode cX9_isIn 14 = .ok (.goto 4, 3) := by decide +kernel
theorem dX9_isIn_17 : decode cX9_isIn 17 = .ok (.iconst 0, 1) := by decide +kernel
theorem dX9_isIn_18 : decode cX9_isIn 18 = .ok (.ireturn, 1) := by decide +kernel
theorem dX9_lesser_0 : decode cX9_lesser 0 = .ok (.iload_n 0, 1) := by decide +kernel
theorem dX9_lesser_1 : decode cX9_lesser 1 = .ok (.iload_n 1, 1) := by decide +kernel
theorem dX9_lesser_2 : decode cX9_lesser 2 = .ok (.if_icmp .ge 7, 3) := by decide +kernel
theorem dX9_lesser_5 : decode cX9_lesser 5 = .ok (.iload_n 0, 1) := by decide +kernel
theorem dX9_lesser_6 : decode cX9_lesser 6 = .ok (.goto 4, 3) := by decide +kernel
theorem dX9_lesser_9 : decode cX9_lesser 9 = .ok (.iload_n 1, 1) := by decide +kernel
theorem dX9_lesser_10 : decode cX9_lesser 10 = .ok (.ireturn, 1) := by decide +kernel
theorem dX9_greater_0 : decode cX9_greater 0 = .ok (.iload_n 0, 1) := by decide +kernel
theorem dX9_greater_1 : decode cX9_greater 1 = .ok (.iload_n 1, 1) := by decide +kernel
theorem dX9_greater_2 : decode cX9_greater 2 = .ok (.if_icmp .le 7, 3) := by decide +kernel
theorem dX9_greater_5 : decode cX9_greater 5 = .ok (.iload_n 0, 1) := by decide +kernel
theorem dX9_greater_6 : decode cX9_greater 6 = .ok (.goto 4, 3) := by decide +kernel
theorem dX9_greater_9 : decode cX9_greater 9 = .ok (.iload_n 1, 1) := by decide +kernel
theorem dX9_greater_10 : decode cX9_greater 10 = .ok (.ireturn, 1) := by decide +kernel
theorem dX9_upwards_0 : decode cX9_upwards 0 = .ok (.iload_n 0, 1) := by decide +kernel
theorem dX9_upwards_1 : decode cX9_upwards 1 = .ok (.iload_n 1, 1) := by decide +kernel
theorem dX9_upwards_2 : decode cX9_upwards 2 = .ok (.iadd, 1) := by decide +kernel
theorem dX9_upwards_3 : decode cX9_upwards 3 = .ok (.iconst 1, 1) := by decide +kernel
theorem dX9_upwards_4 : decode cX9_upwards 4 = .ok (.isub, 1) := by decide +kernel
theorem dX9_upwards_5 : decode cX9_upwards 5 = .ok (.iload_n 1, 1) := by decide +kernel
theorem dX9_upwards_6 : decode cX9_upwards 6 = .ok (.idiv, 1) := by decide +kernel
theorem dX9_upwards_7 : decode cX9_upwards 7 = .ok (.ireturn, 1) := by decide +kernel
theorem dX9_copies_0 : decode cX9_copies 0 = .ok (.iconst 0, 1) := by decide +kernel
theorem dX9_copies_1 : decode cX9_copies 1 = .ok (.istore_n 2, 1) := by decide +kernel
theorem dX9_copies_2 : decode cX9_copies 2 = .ok (.iload_n 2, 1) := by decide +kernel
theorem dX9_copies_3 : decode cX9_copies 3 = .ok (.sipush 1846, 3) := by decide +kernel
theorem dX9_copies_6 : decode cX9_copies 6 = .ok (.if_icmp .ge 15, 3) := by decide +kernel
theorem dX9_copies_9 : decode cX9_copies 9 = .ok (.aload_n 1, 1) := by decide +kernel
theorem dX9_copies_10 : decode cX9_copies 10 = .ok (.iload_n 2, 1) := by decide +kernel
theorem dX9_copies_11 : decode cX9_copies 11 = .ok (.aload_n 0, 1) := by decide +kernel
theorem dX9_copies_12 : decode cX9_copies 12 = .ok (.iload_n 2, 1) := by decide +kernel
theorem dX9_copies_13 : decode cX9_copies 13 = .ok (.iaload, 1) := by decide +kernel
theorem dX9_copies_14 : decode cX9_copies 14 = .ok (.iastore, 1) := by decide +kernel
theorem dX9_copies_15 : decode cX9_copies 15 = .ok (.iinc 2 1, 3) := by decide +kernel
theorem dX9_copies_18 : decode cX9_copies 18 = .ok (.goto (-16), 3) := by decide +kernel
theorem dX9_copies_21 : decode cX9_copies 21 = .ok (.return_, 1) := by decide +kernel
theorem dX9_starts_0 : decode cX9_starts 0 = .ok (.aload_n 0, 1) := by decide +kernel
theorem dX9_starts_1 : decode cX9_starts 1 = .ok (.getfield 13, 3) := by decide +kernel
theorem dX9_starts_4 : decode cX9_starts 4 = .ok (.aload_n 0, 1) := by decide +kernel
theorem dX9_starts_5 : decode cX9_starts 5 = .ok (.getfield 20, 3) := by decide +kernel
theorem dX9_starts_8 : decode cX9_starts 8 = .ok (.invokestatic 70, 3) := by decide +kernel
theorem dX9_starts_11 : decode cX9_starts 11 = .ok (.return_, 1) := by decide +kernel
theorem dX9_done_0 : decode cX9_done 0 = .ok (.aload_n 0, 1) := by decide +kernel
theorem dX9_done_1 : decode cX9_done 1 = .ok (.getfield 74, 3) := by decide +kernel
theorem dX9_done_4 : decode cX9_done 4 = .ok (.bipush 8, 2) := by decide +kernel
theorem dX9_done_6 : decode cX9_done 6 = .ok (.if_icmp .ne 44, 3) := by decide +kernel
theorem dX9_done_9 : decode cX9_done 9 = .ok (.iconst 0, 1) := by decide +kernel
theorem dX9_done_10 : decode cX9_done 10 = .ok (.istore_n 2, 1) := by decide +kernel
theorem dX9_done_11 : decode cX9_done 11 = .ok (.iload_n 2, 1) := by decide +kernel
theorem dX9_done_12 : decode cX9_done 12 = .ok (.sipush 12922, 3) := by decide +kernel
theorem dX9_done_15 : decode cX9_done 15 = .ok (.if_icmp .ge 25, 3) := by decide +kernel
theorem dX9_done_18 : decode cX9_done 18 = .ok (.aload_n 0, 1) := by decide +kernel
theorem dX9_done_19 : decode cX9_done 19 = .ok (.getfield 29, 3) := by decide +kernel
theorem dX9_done_22 : decode cX9_done 22 = .ok (.iload_n 2, 1) := by decide +kernel
theorem dX9_done_23 : decode cX9_done 23 = .ok (.aload_n 0, 1) := by decide +kernel
theorem dX9_done_24 : decode cX9_done 24 = .ok (.getfield 29, 3) := by decide +kernel
theorem dX9_done_27 : decode cX9_done 27 = .ok (.iload_n 2, 1) := by decide +kernel
theorem dX9_done_28 : decode cX9_done 28 = .ok (.sipush 1846, 3) := by decide +kernel
theorem dX9_done_31 : decode cX9_done 31 = .ok (.iadd, 1) := by decide +kernel
theorem dX9_done_32 : decode cX9_done 32 = .ok (.iaload, 1) := by decide +kernel
theorem dX9_done_33 : decode cX9_done 33 = .ok (.iastore, 1) := by decide +kernel
theorem dX9_done_34 : decode cX9_done 34 = .ok (.iinc 2 1, 3) := by decide +kernel
theorem dX9_done_37 : decode cX9_done 37 = .ok (.goto (-26), 3) := by decide +kernel
theorem dX9_done_40 : decode cX9_done 40 = .ok (.aload_n 0, 1) := by decide +kernel
theorem dX9_done_41 : decode cX9_done 41 = .ok (.aload_n 0, 1) := by decide +kernel
theorem dX9_done_42 : decode cX9_done 42 = .ok (.getfield 74, 3) := by decide +kernel
theorem dX9_done_45 : decode cX9_done 45 = .ok (.iconst 1, 1) := by decide +kernel
theorem dX9_done_46 : decode cX9_done 46 = .ok (.isub, 1) := by decide +kernel
theorem dX9_done_47 : decode cX9_done 47 = .ok (.putfield 74, 3) := by decide +kernel
theorem dX9_done_50 : decode cX9_done 50 = .ok (.iconst 0, 1) := by decide +kernel
theorem dX9_done_51 : decode cX9_done 51 = .ok (.istore_n 2, 1) := by decide +kernel
theorem dX9_done_52 : decode cX9_done 52 = .ok (.iload_n 2, 1) := by decide +kernel
theorem dX9_done_53 : decode cX9_done 53 = .ok (.sipush 1846, 3) := by decide +kernel
theorem dX9_done_56 : decode cX9_done 56 = .ok (.if_icmp .ge 30, 3) := by decide +kernel
theorem dX9_done_59 : decode cX9_done 59 = .ok (.aload_n 0, 1) := by decide +kernel
theorem dX9_done_60 : decode cX9_done 60 = .ok (.getfield 29, 3) := by decide +kernel
theorem dX9_done_63 : decode cX9_done 63 = .ok (.sipush 1846, 3) := by decide +kernel
theorem dX9_done_66 : decode cX9_done 66 = .ok (.aload_n 0, 1) := by decide +kernel
theorem dX9_done_67 : decode cX9_done 67 = .ok (.getfield 74, 3) := by decide +kernel
theorem dX9_done_70 : decode cX9_done 70 = .ok (.imul, 1) := by decide +kernel
theorem dX9_done_71 : decode cX9_done 71 = .ok (.iload_n 2, 1) := by decide +kernel
theorem dX9_done_72 : decode cX9_done 72 = .ok (.iadd, 1) := by decide +kernel
theorem dX9_done_73 : decode cX9_done 73 = .ok (.aload_n 0, 1) := by decide +kernel
theorem dX9_done_74 : decode cX9_done 74 = .ok (.getfield 20, 3) := by decide +kernel
theorem dX9_done_77 : decode cX9_done 77 = .ok (.iload_n 2, 1) := by decide +kernel
theorem dX9_done_78 : decode cX9_done 78 = .ok (.iaload, 1) := by decide +kernel
theorem dX9_done_79 : decode cX9_done 79 = .ok (.iastore, 1) := by decide +kernel
theorem dX9_done_80 : decode cX9_done 80 = .ok (.iinc 2 1, 3) := by decide +kernel
theorem dX9_done_83 : decode cX9_done 83 = .ok (.goto (-31), 3) := by decide +kernel
theorem dX9_done_86 : decode cX9_done 86 = .ok (.aload_n 0, 1) := by decide +kernel
theorem dX9_done_87 : decode cX9_done 87 = .ok (.aload_n 0, 1) := by decide +kernel
theorem dX9_done_88 : decode cX9_done 88 = .ok (.getfield 74, 3) := by decide +kernel
theorem dX9_done_91 : decode cX9_done 91 = .ok (.iconst 1, 1) := by decide +kernel
theorem dX9_done_92 : decode cX9_done 92 = .ok (.iadd, 1) := by decide +kernel
theorem dX9_done_93 : decode cX9_done 93 = .ok (.putfield 74, 3) := by decide +kernel
theorem dX9_done_96 : decode cX9_done 96 = .ok (.iload_n 1, 1) := by decide +kernel
theorem dX9_done_97 : decode cX9_done 97 = .ok (.ireturn, 1) := by decide +kernel
theorem dX9_undo_0 : decode cX9_undo 0 = .ok (.aload_n 0, 1) := by decide +kernel
theorem dX9_undo_1 : decode cX9_undo 1 = .ok (.aload_n 0, 1) := by decide +kernel
theorem dX9_undo_2 : decode cX9_undo 2 = .ok (.getfield 74, 3) := by decide +kernel
theorem dX9_undo_5 : decode cX9_undo 5 = .ok (.ifCond .le 7, 3) := by decide +kernel
theorem dX9_undo_8 : decode cX9_undo 8 = .ok (.iconst 1, 1) := by decide +kernel
theorem dX9_undo_9 : decode cX9_undo 9 = .ok (.goto 4, 3) := by decide +kernel
theorem dX9_undo_12 : decode cX9_undo 12 = .ok (.iconst 0, 1) := by decide +kernel
theorem dX9_undo_13 : decode cX9_undo 13 = .ok (.invokevirtual 77, 3) := by decide +kernel
theorem dX9_undo_16 : decode cX9_undo 16 = .ok (.ifCond .ne 5, 3) := by decide +kernel
theorem dX9_undo_19 : decode cX9_undo 19 = .ok (.iconst 0, 1) := by decide +kernel
theorem dX9_undo_20 : decode cX9_undo 20 = .ok (.ireturn, 1) := by decide +kernel
theorem dX9_undo_21 : decode cX9_undo 21 = .ok (.aload_n 0, 1) := by decide +kernel
theorem dX9_undo_22 : decode cX9_undo 22 = .ok (.aload_n 0, 1) := by decide +kernel
theorem dX9_undo_23 : decode cX9_undo 23 = .ok (.getfield 74, 3) := by decide +kernel
theorem dX9_undo_26 : decode cX9_undo 26 = .ok (.iconst 1, 1) := by decide +kernel
theorem dX9_undo_27 : decode cX9_undo 27 = .ok (.isub, 1) := by decide +kernel
theorem dX9_undo_28 : decode cX9_undo 28 = .ok (.putfield 74, 3) := by decide +kernel
theorem dX9_undo_31 : decode cX9_undo 31 = .ok (.iconst 0, 1) := by decide +kernel
theorem dX9_undo_32 : decode cX9_undo 32 = .ok (.istore_n 1, 1) := by decide +kernel
theorem dX9_undo_33 : decode cX9_undo 33 = .ok (.iload_n 1, 1) := by decide +kernel
theorem dX9_undo_34 : decode cX9_undo 34 = .ok (.sipush 1846, 3) := by decide +kernel
theorem dX9_undo_37 : decode cX9_undo 37 = .ok (.if_icmp .ge 30, 3) := by decide +kernel
theorem dX9_undo_40 : decode cX9_undo 40 = .ok (.aload_n 0, 1) := by decide +kernel
theorem dX9_undo_41 : decode cX9_undo 41 = .ok (.getfield 13, 3) := by decide +kernel
theorem dX9_undo_44 : decode cX9_undo 44 = .ok (.iload_n 1, 1) := by decide +kernel
theorem dX9_undo_45 : decode cX9_undo 45 = .ok (.aload_n 0, 1) := by decide +kernel
theorem dX9_undo_46 : decode cX9_undo 46 = .ok (.getfield 29, 3) := by decide +kernel
theorem dX9_undo_49 : decode cX9_undo 49 = .ok (.sipush 1846, 3) := by decide +kernel
theorem dX9_undo_52 : decode cX9_undo 52 = .ok (.aload_n 0, 1) := by decide +kernel
theorem dX9_undo_53 : decode cX9_undo 53 = .ok (.getfield 74, 3) := by decide +kernel
theorem dX9_undo_56 : decode cX9_undo 56 = .ok (.imul, 1) := by decide +kernel
theorem dX9_undo_57 : decode cX9_undo 57 = .ok (.iload_n 1, 1) := by decide +kernel
theorem dX9_undo_58 : decode cX9_undo 58 = .ok (.iadd, 1) := by decide +kernel
theorem dX9_undo_59 : decode cX9_undo 59 = .ok (.iaload, 1) := by decide +kernel
theorem dX9_undo_60 : decode cX9_undo 60 = .ok (.iastore, 1) := by decide +kernel
theorem dX9_undo_61 : decode cX9_undo 61 = .ok (.iinc 1 1, 3) := by decide +kernel
theorem dX9_undo_64 : decode cX9_undo 64 = .ok (.goto (-31), 3) := by decide +kernel
theorem dX9_undo_67 : decode cX9_undo 67 = .ok (.aload_n 0, 1) := by decide +kernel
theorem dX9_undo_68 : decode cX9_undo 68 = .ok (.getfield 74, 3) := by decide +kernel
theorem dX9_undo_71 : decode cX9_undo 71 = .ok (.ireturn, 1) := by decide +kernel
theorem dX9_saveState_0 : decode cX9_saveState 0 = .ok (.aload_n 0, 1) := by decide +kernel
theorem dX9_saveState_1 : decode cX9_saveState 1 = .ok (.iconst 0, 1) := by decide +kernel
theorem dX9_saveState_2 : decode cX9_saveState 2 = .ok (.putfield 67, 3) := by decide +kernel
theorem dX9_saveState_5 : decode cX9_saveState 5 = .ok (.aload_n 0, 1) := by decide +kernel
theorem dX9_saveState_6 : decode cX9_saveState 6 = .ok (.getfield 13, 3) := by decide +kernel
theorem dX9_saveState_9 : decode cX9_saveState 9 = .ok (.aload_n 0, 1) := by decide +kernel
theorem dX9_saveState_10 : decode cX9_saveState 10 = .ok (.getfield 26, 3) := by decide +kernel
theorem dX9_saveState_13 : decode cX9_saveState 13 = .ok (.invokestatic 70, 3) := by decide +kernel
theorem dX9_saveState_16 : decode cX9_saveState 16 = .ok (.aload_n 0, 1) := by decide +kernel
theorem dX9_saveState_17 : decode cX9_saveState 17 = .ok (.iconst 1, 1) := by decide +kernel
theorem dX9_saveState_18 : decode cX9_saveState 18 = .ok (.putfield 81, 3) := by decide +kernel
theorem dX9_saveState_21 : decode cX9_saveState 21 = .ok (.aload_n 0, 1) := by decide +kernel
theorem dX9_saveState_22 : decode cX9_saveState 22 = .ok (.getfield 13, 3) := by decide +kernel
theorem dX9_saveState_25 : decode cX9_saveState 25 = .ok (.iconst 0, 1) := by decide +kernel
theorem dX9_saveState_26 : decode cX9_saveState 26 = .ok (.iaload, 1) := by decide +kernel
theorem dX9_saveState_27 : decode cX9_saveState 27 = .ok (.ireturn, 1) := by decide +kernel
theorem dX9_restoreState_0 : decode cX9_restoreState 0 = .ok (.aload_n 0, 1) := by decide +kernel
theorem dX9_restoreState_1 : decode cX9_restoreState 1 = .ok (.aload_n 0, 1) := by decide +kernel
theorem dX9_restoreState_2 : decode cX9_restoreState 2 = .ok (.getfield 81, 3) := by decide +kernel
theorem dX9_restoreState_5 : decode cX9_restoreState 5 = .ok (.invokevirtual 77, 3) := by decide +kernel
theorem dX9_restoreState_8 : decode cX9_restoreState 8 = .ok (.ifCond .ne 5, 3) := by decide +kernel
theorem dX9_restoreState_11 : decode cX9_restoreState 11 = .ok (.iconst 0, 1) := by decide +kernel
theorem dX9_restoreState_12 : decode cX9_restoreState 12 = .ok (.ireturn, 1) := by decide +kernel
theorem dX9_restoreState_13 : decode cX9_restoreState 13 = .ok (.aload_n 0, 1) := by decide +kernel
theorem dX9_restoreState_14 : decode cX9_restoreState 14 = .ok (.getfield 26, 3) := by decide +kernel
theorem dX9_restoreState_17 : decode cX9_restoreState 17 = .ok (.aload_n 0, 1) := by decide +kernel
theorem dX9_restoreState_18 : decode cX9_restoreState 18 = .ok (.getfield 13, 3) := by decide +kernel
theorem dX9_restoreState_21 : decode cX9_restoreState 21 = .ok (.invokestatic 70, 3) := by decide +kernel
theorem dX9_restoreState_24 : decode cX9_restoreState 24 = .ok (.aload_n 0, 1) := by decide +kernel
theorem dX9_restoreState_25 : decode cX9_restoreState 25 = .ok (.iconst 0, 1) := by decide +kernel
theorem dX9_restoreState_26 : decode cX9_restoreState 26 = .ok (.putfield 74, 3) := by decide +kernel
theorem dX9_restoreState_29 : decode cX9_restoreState 29 = .ok (.aload_n 0, 1) := by decide +kernel
theorem dX9_restoreState_30 : decode cX9_restoreState 30 = .ok (.getfield 13, 3) := by decide +kernel
theorem dX9_restoreState_33 : decode cX9_restoreState 33 = .ok (.iconst 0, 1) := by decide +kernel
theorem dX9_restoreState_34 : decode cX9_restoreState 34 = .ok (.iaload, 1) := by decide +kernel
theorem dX9_restoreState_35 : decode cX9_restoreState 35 = .ok (.ireturn, 1) := by decide +kernel
theorem dX9_tries_0 : decode cX9_tries 0 = .ok (.aload_n 0, 1) := by decide +kernel
theorem dX9_tries_1 : decode cX9_tries 1 = .ok (.getfield 13, 3) := by decide +kernel
theorem dX9_tries_4 : decode cX9_tries 4 = .ok (.aload_n 0, 1) := by decide +kernel
theorem dX9_tries_5 : decode cX9_tries 5 = .ok (.getfield 23, 3) := by decide +kernel
theorem dX9_tries_8 : decode cX9_tries 8 = .ok (.invokestatic 70, 3) := by decide +kernel
theorem dX9_tries_11 : decode cX9_tries 11 = .ok (.return_, 1) := by decide +kernel
theorem dX9_laysBack_0 : decode cX9_laysBack 0 = .ok (.aload_n 0, 1) := by decide +kernel
theorem dX9_laysBack_1 : decode cX9_laysBack 1 = .ok (.getfield 23, 3) := by decide +kernel
theorem dX9_laysBack_4 : decode cX9_laysBack 4 = .ok (.aload_n 0, 1) := by decide +kernel
theorem dX9_laysBack_5 : decode cX9_laysBack 5 = .ok (.getfield 13, 3) := by decide +kernel
theorem dX9_laysBack_8 : decode cX9_laysBack 8 = .ok (.invokestatic 70, 3) := by decide +kernel
theorem dX9_laysBack_11 : decode cX9_laysBack 11 = .ok (.iload_n 1, 1) := by decide +kernel
theorem dX9_laysBack_12 : decode cX9_laysBack 12 = .ok (.ireturn, 1) := by decide +kernel
theorem dX9_process0_0 : decode cX9_process0 0 = .ok (.aload_n 0, 1) := by decide +kernel
theorem dX9_process0_1 : decode cX9_process0 1 = .ok (.getfield 13, 3) := by decide +kernel
theorem dX9_process0_4 : decode cX9_process0 4 = .ok (.bipush 10, 2) := by decide +kernel
theorem dX9_process0_6 : decode cX9_process0 6 = .ok (.bipush 6, 2) := by decide +kernel
theorem dX9_process0_8 : decode cX9_process0 8 = .ok (.iload_n 1, 1) := by decide +kernel
theorem dX9_process0_9 : decode cX9_process0 9 = .ok (.imul, 1) := by decide +kernel
theorem dX9_process0_10 : decode cX9_process0 10 = .ok (.iadd, 1) := by decide +kernel
theorem dX9_process0_11 : decode cX9_process0 11 = .ok (.iload_n 2, 1) := by decide +kernel
theorem dX9_process0_12 : decode cX9_process0 12 = .ok (.iadd, 1) := by decide +kernel
theorem dX9_process0_13 : decode cX9_process0 13 = .ok (.iaload, 1) := by decide +kernel
theorem dX9_process0_14 : decode cX9_process0 14 = .ok (.ireturn, 1) := by decide +kernel
theorem dX9_sets_0 : decode cX9_sets 0 = .ok (.aload_n 0, 1) := by decide +kernel
theorem dX9_sets_1 : decode cX9_sets 1 = .ok (.getfield 13, 3) := by decide +kernel
theorem dX9_sets_4 : decode cX9_sets 4 = .ok (.bipush 10, 2) := by decide +kernel
theorem dX9_sets_6 : decode cX9_sets 6 = .ok (.bipush 6, 2) := by decide +kernel
theorem dX9_sets_8 : decode cX9_sets 8 = .ok (.iload_n 1, 1) := by decide +kernel
theorem dX9_sets_9 : decode cX9_sets 9 = .ok (.imul, 1) := by decide +kernel
theorem dX9_sets_10 : decode cX9_sets 10 = .ok (.iadd, 1) := by decide +kernel
theorem dX9_sets_11 : decode cX9_sets 11 = .ok (.iload_n 2, 1) := by decide +kernel
theorem dX9_sets_12 : decode cX9_sets 12 = .ok (.iadd, 1) := by decide +kernel
theorem dX9_sets_13 : decode cX9_sets 13 = .ok (.iload_n 3, 1) := by decide +kernel
theorem dX9_sets_14 : decode cX9_sets 14 = .ok (.iastore, 1) := by decide +kernel
theorem dX9_sets_15 : decode cX9_sets 15 = .ok (.return_, 1) := by decide +kernel
theorem dX9_loan0_0 : decode cX9_loan0 0 = .ok (.aload_n 0, 1) := by decide +kernel
theorem dX9_loan0_1 : decode cX9_loan0 1 = .ok (.getfield 13, 3) := by decide +kernel
theorem dX9_loan0_4 : decode cX9_loan0 4 = .ok (.bipush 58, 2) := by decide +kernel
theorem dX9_loan0_6 : decode cX9_loan0 6 = .ok (.bipush 6, 2) := by decide +kernel
theorem dX9_loan0_8 : decode cX9_loan0 8 = .ok (.iload_n 1, 1) := by decide +kernel
theorem dX9_loan0_9 : decode cX9_loan0 9 = .ok (.imul, 1) := by decide +kernel
theorem dX9_loan0_10 : decode cX9_loan0 10 = .ok (.iadd, 1) := by decide +kernel
theorem dX9_loan0_11 : decode cX9_loan0 11 = .ok (.iload_n 2, 1) := by decide +kernel
theorem dX9_loan0_12 : decode cX9_loan0 12 = .ok (.iadd, 1) := by decide +kernel
theorem dX9_loan0_13 : decode cX9_loan0 13 = .ok (.iaload, 1) := by decide +kernel
theorem dX9_loan0_14 : decode cX9_loan0 14 = .ok (.ireturn, 1) := by decide +kernel
theorem dX9_claim0_0 : decode cX9_claim0 0 = .ok (.aload_n 0, 1) := by decide +kernel
theorem dX9_claim0_1 : decode cX9_claim0 1 = .ok (.getfield 13, 3) := by decide +kernel
theorem dX9_claim0_4 : decode cX9_claim0 4 = .ok (.sipush 602, 3) := by decide +kernel
theorem dX9_claim0_7 : decode cX9_claim0 7 = .ok (.bipush 7, 2) := by decide +kernel
theorem dX9_claim0_9 : decode cX9_claim0 9 = .ok (.iload_n 1, 1) := by decide +kernel
theorem dX9_claim0_10 : decode cX9_claim0 10 = .ok (.imul, 1) := by decide +kernel
theorem dX9_claim0_11 : decode cX9_claim0 11 = .ok (.iadd, 1) := by decide +kernel
theorem dX9_claim0_12 : decode cX9_claim0 12 = .ok (.iload_n 2, 1) := by decide +kernel
theorem dX9_claim0_13 : decode cX9_claim0 13 = .ok (.iadd, 1) := by decide +kernel
theorem dX9_claim0_14 : decode cX9_claim0 14 = .ok (.iaload, 1) := by decide +kernel
theorem dX9_claim0_15 : decode cX9_claim0 15 = .ok (.ireturn, 1) := by decide +kernel
theorem dX9_fineAt_0 : decode cX9_fineAt 0 = .ok (.sipush 1022, 3) := by decide +kernel
theorem dX9_fineAt_3 : decode cX9_fineAt 3 = .ok (.bipush 8, 2) := by decide +kernel
theorem dX9_fineAt_5 : decode cX9_fineAt 5 = .ok (.iload_n 0, 1) := by decide +kernel
theorem dX9_fineAt_6 : decode cX9_fineAt 6 = .ok (.bipush 40, 2) := by decide +kernel
theorem dX9_fineAt_8 : decode cX9_fineAt 8 = .ok (.irem, 1) := by decide +kernel
theorem dX9_fineAt_9 : decode cX9_fineAt 9 = .ok (.imul, 1) := by decide +kernel
theorem dX9_fineAt_10 : decode cX9_fineAt 10 = .ok (.iadd, 1) := by decide +kernel
theorem dX9_fineAt_11 : decode cX9_fineAt 11 = .ok (.ireturn, 1) := by decide +kernel
theorem dX9_fine0_0 : decode cX9_fine0 0 = .ok (.aload_n 0, 1) := by decide +kernel
theorem dX9_fine0_1 : decode cX9_fine0 1 = .ok (.getfield 13, 3) := by decide +kernel
theorem dX9_fine0_4 : decode cX9_fine0 4 = .ok (.iload_n 1, 1) := by decide +kernel
theorem dX9_fine0_5 : decode cX9_fine0 5 = .ok (.invokestatic 85, 3) := by decide +kernel
theorem dX9_fine0_8 : decode cX9_fine0 8 = .ok (.iload_n 2, 1) := by decide +kernel
theorem dX9_fine0_9 : decode cX9_fine0 9 = .ok (.iadd, 1) := by decide +kernel
theorem dX9_fine0_10 : decode cX9_fine0 10 = .ok (.iaload, 1) := by decide +kernel
theorem dX9_fine0_11 : decode cX9_fine0 11 = .ok (.ireturn, 1) := by decide +kernel
theorem dX9_isProcess_0 : decode cX9_isProcess 0 = .ok (.iload_n 1, 1) := by decide +kernel
theorem dX9_isProcess_1 : decode cX9_isProcess 1 = .ok (.i2l, 1) := by decide +kernel
theorem dX9_isProcess_2 : decode cX9_isProcess 2 = .ok (.lconst 0, 1) := by decide +kernel
theorem dX9_isProcess_3 : decode cX9_isProcess 3 = .ok (.aload_n 0, 1) := by decide +kernel
theorem dX9_isProcess_4 : decode cX9_isProcess 4 = .ok (.getfield 89, 3) := by decide +kernel
theorem dX9_isProcess_7 : decode cX9_isProcess 7 = .ok (.iconst 1, 1) := by decide +kernel
theorem dX9_isProcess_8 : decode cX9_isProcess 8 = .ok (.isub, 1) := by decide +kernel
theorem dX9_isProcess_9 : decode cX9_isProcess 9 = .ok (.i2l, 1) := by decide +kernel
theorem dX9_isProcess_10 : decode cX9_isProcess 10 = .ok (.invokestatic 92, 3) := by decide +kernel
theorem dX9_isProcess_13 : decode cX9_isProcess 13 = .ok (.ireturn, 1) := by decide +kernel
theorem dX9_isLoan_0 : decode cX9_isLoan 0 = .ok (.iload_n 1, 1) := by decide +kernel
theorem dX9_isLoan_1 : decode cX9_isLoan 1 = .ok (.i2l, 1) := by decide +kernel
theorem dX9_isLoan_2 : decode cX9_isLoan 2 = .ok (.lconst 0, 1) := by decide +kernel
theorem dX9_isLoan_3 : decode cX9_isLoan 3 = .ok (.aload_n 0, 1) := by decide +kernel
theorem dX9_isLoan_4 : decode cX9_isLoan 4 = .ok (.getfield 13, 3) := by decide +kernel
theorem dX9_isLoan_7 : decode cX9_isLoan 7 = .ok (.bipush 6, 2) := by decide +kernel
theorem dX9_isLoan_9 : decode cX9_isLoan 9 = .ok (.iaload, 1) := by decide +kernel
theorem dX9_isLoan_10 : decode cX9_isLoan 10 = .ok (.iconst 1, 1) := by decide +kernel
theorem dX9_isLoan_11 : decode cX9_isLoan 11 = .ok (.isub, 1) := by decide +kernel
theorem dX9_isLoan_12 : decode cX9_isLoan 12 = .ok (.i2l, 1) := by decide +kernel
theorem dX9_isLoan_13 : decode cX9_isLoan 13 = .ok (.invokestatic 92, 3) := by decide +kernel
theorem dX9_isLoan_16 : decode cX9_isLoan 16 = .ok (.ireturn, 1) := by decide +kernel
theorem dX9_isClaim_0 : decode cX9_isClaim 0 = .ok (.iload_n 1, 1) := by decide +kernel
theorem dX9_isClaim_1 : decode cX9_isClaim 1 = .ok (.i2l, 1) := by decide +kernel
theorem dX9_isClaim_2 : decode cX9_isClaim 2 = .ok (.lconst 0, 1) := by decide +kernel
theorem dX9_isClaim_3 : decode cX9_isClaim 3 = .ok (.aload_n 0, 1) := by decide +kernel
theorem dX9_isClaim_4 : decode cX9_isClaim 4 = .ok (.getfield 13, 3) := by decide +kernel
theorem dX9_isClaim_7 : decode cX9_isClaim 7 = .ok (.bipush 7, 2) := by decide +kernel
theorem dX9_isClaim_9 : decode cX9_isClaim 9 = .ok (.iaload, 1) := by decide +kernel
theorem dX9_isClaim_10 : decode cX9_isClaim 10 = .ok (.iconst 1, 1) := by decide +kernel
theorem dX9_isClaim_11 : decode cX9_isClaim 11 = .ok (.isub, 1) := by decide +kernel
theorem dX9_isClaim_12 : decode cX9_isClaim 12 = .ok (.i2l, 1) := by decide +kernel
theorem dX9_isClaim_13 : decode cX9_isClaim 13 = .ok (.invokestatic 92, 3) := by decide +kernel
theorem dX9_isClaim_16 : decode cX9_isClaim 16 = .ok (.ireturn, 1) := by decide +kernel
theorem dX9_isKnown_0 : decode cX9_isKnown 0 = .ok (.iload_n 1, 1) := by decide +kernel
theorem dX9_isKnown_1 : decode cX9_isKnown 1 = .ok (.i2l, 1) := by decide +kernel
theorem dX9_isKnown_2 : decode cX9_isKnown 2 = .ok (.iconst 0, 1) := by decide +kernel
theorem dX9_isKnown_3 : decode cX9_isKnown 3 = .ok (.aload_n 0, 1) := by decide +kernel
theorem dX9_isKnown_4 : decode cX9_isKnown 4 = .ok (.getfield 13, 3) := by decide +kernel
theorem dX9_isKnown_7 : decode cX9_isKnown 7 = .ok (.iconst 4, 1) := by decide +kernel
theorem dX9_isKnown_8 : decode cX9_isKnown 8 = .ok (.iaload, 1) := by decide +kernel
theorem dX9_isKnown_9 : decode cX9_isKnown 9 = .ok (.bipush 40, 2) := by decide +kernel
theorem dX9_isKnown_11 : decode cX9_isKnown 11 = .ok (.isub, 1) := by decide +kernel
theorem dX9_isKnown_12 : decode cX9_isKnown 12 = .ok (.invokestatic 96, 3) := by decide +kernel
theorem dX9_isKnown_15 : decode cX9_isKnown 15 = .ok (.i2l, 1) := by decide +kernel
theorem dX9_isKnown_16 : decode cX9_isKnown 16 = .ok (.aload_n 0, 1) := by decide +kernel
theorem dX9_isKnown_17 : decode cX9_isKnown 17 = .ok (.getfield 13, 3) := by decide +kernel
theorem dX9_isKnown_20 : decode cX9_isKnown 20 = .ok (.iconst 4, 1) := by decide +kernel
theorem dX9_isKnown_21 : decode cX9_isKnown 21 = .ok (.iaload, 1) := by decide +kernel
theorem dX9_isKnown_22 : decode cX9_isKnown 22 = .ok (.iconst 1, 1) := by decide +kernel
theorem dX9_isKnown_23 : decode cX9_isKnown 23 = .ok (.isub, 1) := by decide +kernel
theorem dX9_isKnown_24 : decode cX9_isKnown 24 = .ok (.i2l, 1) := by decide +kernel
theorem dX9_isKnown_25 : decode cX9_isKnown 25 = .ok (.invokestatic 92, 3) := by decide +kernel
theorem dX9_isKnown_28 : decode cX9_isKnown 28 = .ok (.ireturn, 1) := by decide +kernel
theorem dX9_pagesOf_0 : decode cX9_pagesOf 0 = .ok (.iconst 0, 1) := by decide +kernel
theorem dX9_pagesOf_1 : decode cX9_pagesOf 1 = .ok (.istore_n 2, 1) := by decide +kernel
theorem dX9_pagesOf_2 : decode cX9_pagesOf 2 = .ok (.iconst 0, 1) := by decide +kernel
theorem dX9_pagesOf_3 : decode cX9_pagesOf 3 = .ok (.istore_n 3, 1) := by decide +kernel
theorem dX9_pagesOf_4 : decode cX9_pagesOf 4 = .ok (.iload_n 3, 1) := by decide +kernel
theorem dX9_pagesOf_5 : decode cX9_pagesOf 5 = .ok (.aload_n 0, 1) := by decide +kernel
theorem dX9_pagesOf_6 : decode cX9_pagesOf 6 = .ok (.getfield 100, 3) := by decide +kernel
theorem dX9_pagesOf_9 : decode cX9_pagesOf 9 = .ok (.if_icmp .ge 27, 3) := by decide +kernel
theorem dX9_pagesOf_12 : decode cX9_pagesOf 12 = .ok (.aload_n 0, 1) := by decide +kernel
theorem dX9_pagesOf_13 : decode cX9_pagesOf 13 = .ok (.getfield 13, 3) := by decide +kernel
theorem dX9_pagesOf_16 : decode cX9_pagesOf 16 = .ok (.sipush 538, 3) := by decide +kernel
theorem dX9_pagesOf_19 : decode cX9_pagesOf 19 = .ok (.iload_n 3, 1) := by decide +kernel
theorem dX9_pagesOf_20 : decode cX9_pagesOf 20 = .ok (.iadd, 1) := by decide +kernel
theorem dX9_pagesOf_21 : decode cX9_pagesOf 21 = .ok (.iaload, 1) := by decide +kernel
theorem dX9_pagesOf_22 : decode cX9_pagesOf 22 = .ok (.iload_n 1, 1) := by decide +kernel
theorem dX9_pagesOf_23 : decode cX9_pagesOf 23 = .ok (.if_icmp .ne 7, 3) := by decide +kernel
theorem dX9_pagesOf_26 : decode cX9_pagesOf 26 = .ok (.iload_n 2, 1) := by decide +kernel
theorem dX9_pagesOf_27 : decode cX9_pagesOf 27 = .ok (.iconst 1, 1) := by decide +kernel
theorem dX9_pagesOf_28 : decode cX9_pagesOf 28 = .ok (.iadd, 1) := by decide +kernel
theorem dX9_pagesOf_29 : decode cX9_pagesOf 29 = .ok (.istore_n 2, 1) := by decide +kernel
theorem dX9_pagesOf_30 : decode cX9_pagesOf 30 = .ok (.iinc 3 1, 3) := by decide +kernel
theorem dX9_pagesOf_33 : decode cX9_pagesOf 33 = .ok (.goto (-29), 3) := by decide +kernel
theorem dX9_pagesOf_36 : decode cX9_pagesOf 36 = .ok (.iload_n 2, 1) := by decide +kernel
theorem dX9_pagesOf_37 : decode cX9_pagesOf 37 = .ok (.ireturn, 1) := by decide +kernel
theorem dX9_free_0 : decode cX9_free 0 = .ok (.aload_n 0, 1) := by decide +kernel
theorem dX9_free_1 : decode cX9_free 1 = .ok (.iconst (-1), 1) := by decide +kernel
theorem dX9_free_2 : decode cX9_free 2 = .ok (.invokevirtual 103, 3) := by decide +kernel
theorem dX9_free_5 : decode cX9_free 5 = .ok (.ireturn, 1) := by decide +kernel
theorem dX9_isBrokenLoan_0 : decode cX9_isBrokenLoan 0 = .ok (.aload_n 0, 1) := by decide +kernel
theorem dX9_isBrokenLoan_1 : decode cX9_isBrokenLoan 1 = .ok (.getfield 13, 3) := by decide +kernel
theorem dX9_isBrokenLoan_4 : decode cX9_isBrokenLoan 4 = .ok (.iconst 0, 1) := by decide +kernel
theorem dX9_isBrokenLoan_5 : decode cX9_isBrokenLoan 5 = .ok (.iaload, 1) := by decide +kernel
theorem dX9_isBrokenLoan_6 : decode cX9_isBrokenLoan 6 = .ok (.aload_n 0, 1) := by decide +kernel
theorem dX9_isBrokenLoan_7 : decode cX9_isBrokenLoan 7 = .ok (.iload_n 1, 1) := by decide +kernel
theorem dX9_isBrokenLoan_8 : decode cX9_isBrokenLoan 8 = .ok (.iconst 1, 1) := by decide +kernel
theorem dX9_isBrokenLoan_9 : decode cX9_isBrokenLoan 9 = .ok (.invokevirtual 106, 3) := by decide +kernel
theorem dX9_isBrokenLoan_12 : decode cX9_isBrokenLoan 12 = .ok (.if_icmp .le 15, 3) := by decide +kernel
theorem dX9_isBrokenLoan_15 : decode cX9_isBrokenLoan 15 = .ok (.aload_n 0, 1) := by decide +kernel
theorem dX9_isBrokenLoan_16 : decode cX9_isBrokenLoan 16 = .ok (.iload_n 1, 1) := by decide +kernel
theorem dX9_isBrokenLoan_17 : decode cX9_isBrokenLoan 17 = .ok (.invokevirtual 103, 3) := by decide +kernel
theorem dX9_isBrokenLoan_20 : decode cX9_isBrokenLoan 20 = .ok (.ifCond .le 7, 3) := by decide +kernel
theorem dX9_isBrokenLoan_23 : decode cX9_isBrokenLoan 23 = .ok (.iconst 1, 1) := by decide +kernel
theorem dX9_isBrokenLoan_24 : decode cX9_isBrokenLoan 24 = .ok (.goto 4, 3) := by decide +kernel
theorem dX9_isBrokenLoan_27 : decode cX9_isBrokenLoan 27 = .ok (.iconst 0, 1) := by decide +kernel
theorem dX9_isBrokenLoan_28 : decode cX9_isBrokenLoan 28 = .ok (.ireturn, 1) := by decide +kernel
theorem dX9_brokenPages_0 : decode cX9_brokenPages 0 = .ok (.iconst 0, 1) := by decide +kernel
theorem dX9_brokenPages_1 : decode cX9_brokenPages 1 = .ok (.istore_n 1, 1) := by decide +kernel
theorem dX9_brokenPages_2 : decode cX9_brokenPages 2 = .ok (.iconst 0, 1) := by decide +kernel
theorem dX9_brokenPages_3 : decode cX9_brokenPages 3 = .ok (.istore_n 2, 1) := by decide +kernel
theorem dX9_brokenPages_4 : decode cX9_brokenPages 4 = .ok (.iload_n 2, 1) := by decide +kernel
theorem dX9_brokenPages_5 : decode cX9_brokenPages 5 = .ok (.aload_n 0, 1) := by decide +kernel
theorem dX9_brokenPages_6 : decode cX9_brokenPages 6 = .ok (.getfield 13, 3) := by decide +kernel
theorem dX9_brokenPages_9 : decode cX9_brokenPages 9 = .ok (.bipush 6, 2) := by decide +kernel
theorem dX9_brokenPages_11 : decode cX9_brokenPages 11 = .ok (.iaload, 1) := by decide +kernel
theorem dX9_brokenPages_12 : decode cX9_brokenPages 12 = .ok (.if_icmp .ge 25, 3) := by decide +kernel
theorem dX9_brokenPages_15 : decode cX9_brokenPages 15 = .ok (.aload_n 0, 1) := by decide +kernel
theorem dX9_brokenPages_16 : decode cX9_brokenPages 16 = .ok (.iload_n 2, 1) := by decide +kernel
theorem dX9_brokenPages_17 : decode cX9_brokenPages 17 = .ok (.invokevirtual 109, 3) := by decide +kernel
theorem dX9_brokenPages_20 : decode cX9_brokenPages 20 = .ok (.ifCond .eq 11, 3) := by decide +kernel
theorem dX9_brokenPages_23 : decode cX9_brokenPages 23 = .ok (.iload_n 1, 1) := by decide +kernel
theorem dX9_brokenPages_24 : decode cX9_brokenPages 24 = .ok (.aload_n 0, 1) := by decide +kernel
theorem dX9_brokenPages_25 : decode cX9_brokenPages 25 = .ok (.iload_n 2, 1) := by decide +kernel
theorem dX9_brokenPages_26 : decode cX9_brokenPages 26 = .ok (.invokevirtual 103, 3) := by decide +kernel
theorem dX9_brokenPages_29 : decode cX9_brokenPages 29 = .ok (.iadd, 1) := by decide +kernel
theorem dX9_brokenPages_30 : decode cX9_brokenPages 30 = .ok (.istore_n 1, 1) := by decide +kernel
theorem dX9_brokenPages_31 : decode cX9_brokenPages 31 = .ok (.iinc 2 1, 3) := by decide +kernel
theorem dX9_brokenPages_34 : decode cX9_brokenPages 34 = .ok (.goto (-30), 3) := by decide +kernel
theorem dX9_brokenPages_37 : decode cX9_brokenPages 37 = .ok (.iload_n 1, 1) := by decide +kernel
theorem dX9_brokenPages_38 : decode cX9_brokenPages 38 = .ok (.ireturn, 1) := by decide +kernel
theorem dX9_earliestBroken_0 : decode cX9_earliestBroken 0 = .ok (.iconst (-1), 1) := by decide +kernel
theorem dX9_earliestBroken_1 : decode cX9_earliestBroken 1 = .ok (.istore_n 1, 1) := by decide +kernel
theorem dX9_earliestBroken_2 : decode cX9_earliestBroken 2 = .ok (.iconst 0, 1) := by decide +kernel
theorem dX9_earliestBroken_3 : decode cX9_earliestBroken 3 = .ok (.istore_n 2, 1) := by decide +kernel
theorem dX9_earliestBroken_4 : decode cX9_earliestBroken 4 = .ok (.iload_n 2, 1) := by decide +kernel
theorem dX9_earliestBroken_5 : decode cX9_earliestBroken 5 = .ok (.aload_n 0, 1) := by decide +kernel
theorem dX9_earliestBroken_6 : decode cX9_earliestBroken 6 = .ok (.getfield 13, 3) := by decide +kernel
theorem dX9_earliestBroken_9 : decode cX9_earliestBroken 9 = .ok (.bipush 6, 2) := by decide +kernel
theorem dX9_earliestBroken_11 : decode cX9_earliestBroken 11 = .ok (.iaload, 1) := by decide +kernel
theorem dX9_earliestBroken_12 : decode cX9_earliestBroken 12 = .ok (.if_icmp .ge 39, 3) := by decide +kernel
theorem dX9_earliestBroken_15 : decode cX9_earliestBroken 15 = .ok (.aload_n 0, 1) := by decide +kernel
theorem dX9_earliestBroken_16 : decode cX9_earliestBroken 16 = .ok (.iload_n 2, 1) := by decide +kernel
theorem dX9_earliestBroken_17 : decode cX9_earliestBroken 17 = .ok (.invokevirtual 109, 3) := by decide +kernel
theorem dX9_earliestBroken_20 : decode cX9_earliestBroken 20 = .ok (.ifCond .eq 25, 3) := by decide +kernel
theorem dX9_earliestBroken_23 : decode cX9_earliestBroken 23 = .ok (.iload_n 1, 1) := by decide +kernel
theorem dX9_earliestBroken_24 : decode cX9_earliestBroken 24 = .ok (.iconst (-1), 1) := by decide +kernel
theorem dX9_earliestBroken_25 : decode cX9_earliestBroken 25 = .ok (.if_icmp .eq 18, 3) := by decide +kernel
theorem dX9_earliestBroken_28 : decode cX9_earliestBroken 28 = .ok (.aload_n 0, 1) := by decide +kernel
theorem dX9_earliestBroken_29 : decode cX9_earliestBroken 29 = .ok (.iload_n 2, 1) := by decide +kernel
theorem dX9_earliestBroken_30 : decode cX9_earliestBroken 30 = .ok (.iconst 1, 1) := by decide +kernel
theorem dX9_earliestBroken_31 : decode cX9_earliestBroken 31 = .ok (.invokevirtual 106, 3) := by decide +kernel
theorem dX9_earliestBroken_34 : decode cX9_earliestBroken 34 = .ok (.aload_n 0, 1) := by decide +kernel
theorem dX9_earliestBroken_35 : decode cX9_earliestBroken 35 = .ok (.iload_n 1, 1) := by decide +kernel
theorem dX9_earliestBroken_36 : decode cX9_earliestBroken 36 = .ok (.iconst 1, 1) := by decide +kernel
theorem dX9_earliestBroken_37 : decode cX9_earliestBroken 37 = .ok (.invokevirtual 106, 3) := by decide +kernel
theorem dX9_earliestBroken_40 : decode cX9_earliestBroken 40 = .ok (.if_icmp .ge 5, 3) := by decide +kernel
theorem dX9_earliestBroken_43 : decode cX9_earliestBroken 43 = .ok (.iload_n 2, 1) := by decide +kernel
theorem dX9_earliestBroken_44 : decode cX9_earliestBroken 44 = .ok (.istore_n 1, 1) := by decide +kernel
theorem dX9_earliestBroken_45 : decode cX9_earliestBroken 45 = .ok (.iinc 2 1, 3) := by decide +kernel
theorem dX9_earliestBroken_48 : decode cX9_earliestBroken 48 = .ok (.goto (-44), 3) := by decide +kernel
theorem dX9_earliestBroken_51 : decode cX9_earliestBroken 51 = .ok (.iload_n 1, 1) := by decide +kernel
theorem dX9_earliestBroken_52 : decode cX9_earliestBroken 52 = .ok (.ireturn, 1) := by decide +kernel
theorem dX9_frees_0 : decode cX9_frees 0 = .ok (.iload_n 2, 1) := by decide +kernel
theorem dX9_frees_1 : decode cX9_frees 1 = .ok (.istore_n 3, 1) := by decide +kernel
theorem dX9_frees_2 : decode cX9_frees 2 = .ok (.aload_n 0, 1) := by decide +kernel
theorem dX9_frees_3 : decode cX9_frees 3 = .ok (.getfield 100, 3) := by decide +kernel
theorem dX9_frees_6 : decode cX9_frees 6 = .ok (.iconst 1, 1) := by decide +kernel
theorem dX9_frees_7 : decode cX9_frees 7 = .ok (.isub, 1) := by decide +kernel
theorem dX9_frees_8 : decode cX9_frees 8 = .ok (.istore 4, 2) := by decide +kernel
theorem dX9_frees_10 : decode cX9_frees 10 = .ok (.iload 4, 2) := by decide +kernel
theorem dX9_frees_12 : decode cX9_frees 12 = .ok (.ifCond .lt 47, 3) := by decide +kernel
theorem dX9_frees_15 : decode cX9_frees 15 = .ok (.iload_n 3, 1) := by decide +kernel
theorem dX9_frees_16 : decode cX9_frees 16 = .ok (.ifCond .le 43, 3) := by decide +kernel
theorem dX9_frees_19 : decode cX9_frees 19 = .ok (.aload_n 0, 1) := by decide +kernel
theorem dX9_frees_20 : decode cX9_frees 20 = .ok (.getfield 13, 3) := by decide +kernel
theorem dX9_frees_23 : decode cX9_frees 23 = .ok (.sipush 538, 3) := by decide +kernel
theorem dX9_frees_26 : decode cX9_frees 26 = .ok (.iload 4, 2) := by decide +kernel
theorem dX9_frees_28 : decode cX9_frees 28 = .ok (.iadd, 1) := by decide +kernel
theorem dX9_frees_29 : decode cX9_frees 29 = .ok (.iaload, 1) := by decide +kernel
theorem dX9_frees_30 : decode cX9_frees 30 = .ok (.iload_n 1, 1) := by decide +kernel
theorem dX9_frees_31 : decode cX9_frees 31 = .ok (.if_icmp .eq 6, 3) := by decide +kernel
theorem dX9_frees_34 : decode cX9_frees 34 = .ok (.goto 19, 3) := by decide +kernel
theorem dX9_frees_37 : decode cX9_frees 37 = .ok (.aload_n 0, 1) := by decide +kernel
theorem dX9_frees_38 : decode cX9_frees 38 = .ok (.getfield 13, 3) := by decide +kernel
theorem dX9_frees_41 : decode cX9_frees 41 = .ok (.sipush 538, 3) := by decide +kernel
theorem dX9_frees_44 : decode cX9_frees 44 = .ok (.iload 4, 2) := by decide +kernel
theorem dX9_frees_46 : decode cX9_frees 46 = .ok (.iadd, 1) := by decide +kernel
theorem dX9_frees_47 : decode cX9_frees 47 = .ok (.iconst (-1), 1) := by decide +kernel
theorem dX9_frees_48 : decode cX9_frees 48 = .ok (.iastore, 1) := by decide +kernel
theorem dX9_frees_49 : decode cX9_frees 49 = .ok (.iload_n 3, 1) := by decide +kernel
theorem dX9_frees_50 : decode cX9_frees 50 = .ok (.iconst 1, 1) := by decide +kernel
theorem dX9_frees_51 : decode cX9_frees 51 = .ok (.isub, 1) := by decide +kernel
theorem dX9_frees_52 : decode cX9_frees 52 = .ok (.istore_n 3, 1) := by decide +kernel
theorem dX9_frees_53 : decode cX9_frees 53 = .ok (.iinc 4 (-1), 3) := by decide +kernel
theorem dX9_frees_56 : decode cX9_frees 56 = .ok (.goto (-46), 3) := by decide +kernel
theorem dX9_frees_59 : decode cX9_frees 59 = .ok (.return_, 1) := by decide +kernel
theorem dX9_lends_0 : decode cX9_lends 0 = .ok (.aload_n 0, 1) := by decide +kernel
theorem dX9_lends_1 : decode cX9_lends 1 = .ok (.bipush 6, 2) := by decide +kernel
theorem dX9_lends_3 : decode cX9_lends 3 = .ok (.iaload, 1) := by decide +kernel
theorem dX9_lends_4 : decode cX9_lends 4 = .ok (.istore 5, 2) := by decide +kernel
theorem dX9_lends_6 : decode cX9_lends 6 = .ok (.bipush 58, 2) := by decide +kernel
theorem dX9_lends_8 : decode cX9_lends 8 = .ok (.bipush 6, 2) := by decide +kernel
theorem dX9_lends_10 : decode cX9_lends 10 = .ok (.iload 5, 2) := by decide +kernel
theorem dX9_lends_12 : decode cX9_lends 12 = .ok (.imul, 1) := by decide +kernel
theorem dX9_lends_13 : decode cX9_lends 13 = .ok (.iadd, 1) := by decide +kernel
theorem dX9_lends_14 : decode cX9_lends 14 = .ok (.istore 6, 2) := by decide +kernel
theorem dX9_lends_16 : decode cX9_lends 16 = .ok (.aload_n 0, 1) := by decide +kernel
theorem dX9_lends_17 : decode cX9_lends 17 = .ok (.iload 6, 2) := by decide +kernel
theorem dX9_lends_19 : decode cX9_lends 19 = .ok (.iconst 0, 1) := by decide +kernel
theorem dX9_lends_20 : decode cX9_lends 20 = .ok (.iadd, 1) := by decide +kernel
theorem dX9_lends_21 : decode cX9_lends 21 = .ok (.iload_n 1, 1) := by decide +kernel
theorem dX9_lends_22 : decode cX9_lends 22 = .ok (.iastore, 1) := by decide +kernel
theorem dX9_lends_23 : decode cX9_lends 23 = .ok (.aload_n 0, 1) := by decide +kernel
theorem dX9_lends_24 : decode cX9_lends 24 = .ok (.iload 6, 2) := by decide +kernel
theorem dX9_lends_26 : decode cX9_lends 26 = .ok (.iconst 1, 1) := by decide +kernel
theorem dX9_lends_27 : decode cX9_lends 27 = .ok (.iadd, 1) := by decide +kernel
theorem dX9_lends_28 : decode cX9_lends 28 = .ok (.iload_n 3, 1) := by decide +kernel
theorem dX9_lends_29 : decode cX9_lends 29 = .ok (.iastore, 1) := by decide +kernel
theorem dX9_lends_30 : decode cX9_lends 30 = .ok (.aload_n 0, 1) := by decide +kernel
theorem dX9_lends_31 : decode cX9_lends 31 = .ok (.iload 6, 2) := by decide +kernel
theorem dX9_lends_33 : decode cX9_lends 33 = .ok (.iconst 2, 1) := by decide +kernel
theorem dX9_lends_34 : decode cX9_lends 34 = .ok (.iadd, 1) := by decide +kernel
theorem dX9_lends_35 : decode cX9_lends 35 = .ok (.aload_n 0, 1) := by decide +kernel
theorem dX9_lends_36 : decode cX9_lends 36 = .ok (.iconst 0, 1) := by decide +kernel
theorem dX9_lends_37 : decode cX9_lends 37 = .ok (.iaload, 1) := by decide +kernel
theorem dX9_lends_38 : decode cX9_lends 38 = .ok (.iastore, 1) := by decide +kernel
theorem dX9_lends_39 : decode cX9_lends 39 = .ok (.aload_n 0, 1) := by decide +kernel
theorem dX9_lends_40 : decode cX9_lends 40 = .ok (.iload 6, 2) := by decide +kernel
theorem dX9_lends_42 : decode cX9_lends 42 = .ok (.iconst 3, 1) := by decide +kernel
theorem dX9_lends_43 : decode cX9_lends 43 = .ok (.iadd, 1) := by decide +kernel
theorem dX9_lends_44 : decode cX9_lends 44 = .ok (.iload 4, 2) := by decide +kernel
theorem dX9_lends_46 : decode cX9_lends 46 = .ok (.iastore, 1) := by decide +kernel
theorem dX9_lends_47 : decode cX9_lends 47 = .ok (.aload_n 0, 1) := by decide +kernel
theorem dX9_lends_48 : decode cX9_lends 48 = .ok (.iload 6, 2) := by decide +kernel
theorem dX9_lends_50 : decode cX9_lends 50 = .ok (.iconst 4, 1) := by decide +kernel
theorem dX9_lends_51 : decode cX9_lends 51 = .ok (.iadd, 1) := by decide +kernel
theorem dX9_lends_52 : decode cX9_lends 52 = .ok (.iconst 0, 1) := by decide +kernel
theorem dX9_lends_53 : decode cX9_lends 53 = .ok (.iastore, 1) := by decide +kernel
theorem dX9_lends_54 : decode cX9_lends 54 = .ok (.aload_n 0, 1) := by decide +kernel
theorem dX9_lends_55 : decode cX9_lends 55 = .ok (.iload 6, 2) := by decide +kernel
theorem dX9_lends_57 : decode cX9_lends 57 = .ok (.iconst 5, 1) := by decide +kernel
theorem dX9_lends_58 : decode cX9_lends 58 = .ok (.iadd, 1) := by decide +kernel
theorem dX9_lends_59 : decode cX9_lends 59 = .ok (.iload_n 2, 1) := by decide +kernel
theorem dX9_lends_60 : decode cX9_lends 60 = .ok (.iastore, 1) := by decide +kernel
theorem dX9_lends_61 : decode cX9_lends 61 = .ok (.aload_n 0, 1) := by decide +kernel
theorem dX9_lends_62 : decode cX9_lends 62 = .ok (.bipush 6, 2) := by decide +kernel
theorem dX9_lends_64 : decode cX9_lends 64 = .ok (.iload 5, 2) := by decide +kernel
theorem dX9_lends_66 : decode cX9_lends 66 = .ok (.iconst 1, 1) := by decide +kernel
theorem dX9_lends_67 : decode cX9_lends 67 = .ok (.iadd, 1) := by decide +kernel
theorem dX9_lends_68 : decode cX9_lends 68 = .ok (.iastore, 1) := by decide +kernel
theorem dX9_lends_69 : decode cX9_lends 69 = .ok (.iload_n 2, 1) := by decide +kernel
theorem dX9_lends_70 : decode cX9_lends 70 = .ok (.istore 7, 2) := by decide +kernel
theorem dX9_lends_72 : decode cX9_lends 72 = .ok (.iconst 0, 1) := by decide +kernel
theorem dX9_lends_73 : decode cX9_lends 73 = .ok (.istore 8, 2) := by decide +kernel
theorem dX9_lends_75 : decode cX9_lends 75 = .ok (.iload 7, 2) := by decide +kernel
theorem dX9_lends_77 : decode cX9_lends 77 = .ok (.ifCond .le 40, 3) := by decide +kernel
theorem dX9_lends_80 : decode cX9_lends 80 = .ok (.aload_n 0, 1) := by decide +kernel
theorem dX9_lends_81 : decode cX9_lends 81 = .ok (.sipush 538, 3) := by decide +kernel
theorem dX9_lends_84 : decode cX9_lends 84 = .ok (.iload 8, 2) := by decide +kernel
theorem dX9_lends_86 : decode cX9_lends 86 = .ok (.iadd, 1) := by decide +kernel
theorem dX9_lends_87 : decode cX9_lends 87 = .ok (.iaload, 1) := by decide +kernel
theorem dX9_lends_88 : decode cX9_lends 88 = .ok (.iconst (-1), 1) := by decide +kernel
theorem dX9_lends_89 : decode cX9_lends 89 = .ok (.if_icmp .eq 6, 3) := by decide +kernel
theorem dX9_lends_92 : decode cX9_lends 92 = .ok (.goto 19, 3) := by decide +kernel
theorem dX9_lends_95 : decode cX9_lends 95 = .ok (.aload_n 0, 1) := by decide +kernel
theorem dX9_lends_96 : decode cX9_lends 96 = .ok (.sipush 538, 3) := by decide +kernel
theorem dX9_lends_99 : decode cX9_lends 99 = .ok (.iload 8, 2) := by decide +kernel
theorem dX9_lends_101 : decode cX9_lends 101 = .ok (.iadd, 1) := by decide +kernel
theorem dX9_lends_102 : decode cX9_lends 102 = .ok (.iload 5, 2) := by decide +kernel
theorem dX9_lends_104 : decode cX9_lends 104 = .ok (.iastore, 1) := by decide +kernel
theorem dX9_lends_105 : decode cX9_lends 105 = .ok (.iload 7, 2) := by decide +kernel
theorem dX9_lends_107 : decode cX9_lends 107 = .ok (.iconst 1, 1) := by decide +kernel
theorem dX9_lends_108 : decode cX9_lends 108 = .ok (.isub, 1) := by decide +kernel
theorem dX9_lends_109 : decode cX9_lends 109 = .ok (.istore 7, 2) := by decide +kernel
theorem dX9_lends_111 : decode cX9_lends 111 = .ok (.iinc 8 1, 3) := by decide +kernel
theorem dX9_lends_114 : decode cX9_lends 114 = .ok (.goto (-39), 3) := by decide +kernel
theorem dX9_lends_117 : decode cX9_lends 117 = .ok (.return_, 1) := by decide +kernel
theorem dX9_asks_0 : decode cX9_asks 0 = .ok (.aload_n 0, 1) := by decide +kernel
theorem dX9_asks_1 : decode cX9_asks 1 = .ok (.bipush 7, 2) := by decide +kernel
theorem dX9_asks_3 : decode cX9_asks 3 = .ok (.iaload, 1) := by decide +kernel
theorem dX9_asks_4 : decode cX9_asks 4 = .ok (.istore 4, 2) := by decide +kernel
theorem dX9_asks_6 : decode cX9_asks 6 = .ok (.sipush 602, 3) := by decide +kernel
theorem dX9_asks_9 : decode cX9_asks 9 = .ok (.bipush 7, 2) := by decide +kernel
theorem dX9_asks_11 : decode cX9_asks 11 = .ok (.iload 4, 2) := by decide +kernel
theorem dX9_asks_13 : decode cX9_asks 13 = .ok (.imul, 1) := by decide +kernel
theorem dX9_asks_14 : decode cX9_asks 14 = .ok (.iadd, 1) := by decide +kernel
theorem dX9_asks_15 : decode cX9_asks 15 = .ok (.istore 5, 2) := by decide +kernel
theorem dX9_asks_17 : decode cX9_asks 17 = .ok (.aload_n 0, 1) := by decide +kernel
theorem dX9_asks_18 : decode cX9_asks 18 = .ok (.iload 5, 2) := by decide +kernel
theorem dX9_asks_20 : decode cX9_asks 20 = .ok (.iconst 0, 1) := by decide +kernel
theorem dX9_asks_21 : decode cX9_asks 21 = .ok (.iadd, 1) := by decide +kernel
theorem dX9_asks_22 : decode cX9_asks 22 = .ok (.iload_n 1, 1) := by decide +kernel
theorem dX9_asks_23 : decode cX9_asks 23 = .ok (.iastore, 1) := by decide +kernel
theorem dX9_asks_24 : decode cX9_asks 24 = .ok (.aload_n 0, 1) := by decide +kernel
theorem dX9_asks_25 : decode cX9_asks 25 = .ok (.iload 5, 2) := by decide +kernel
theorem dX9_asks_27 : decode cX9_asks 27 = .ok (.iconst 1, 1) := by decide +kernel
theorem dX9_asks_28 : decode cX9_asks 28 = .ok (.iadd, 1) := by decide +kernel
theorem dX9_asks_29 : decode cX9_asks 29 = .ok (.iload_n 2, 1) := by decide +kernel
theorem dX9_asks_30 : decode cX9_asks 30 = .ok (.iastore, 1) := by decide +kernel
theorem dX9_asks_31 : decode cX9_asks 31 = .ok (.aload_n 0, 1) := by decide +kernel
theorem dX9_asks_32 : decode cX9_asks 32 = .ok (.iload 5, 2) := by decide +kernel
theorem dX9_asks_34 : decode cX9_asks 34 = .ok (.iconst 2, 1) := by decide +kernel
theorem dX9_asks_35 : decode cX9_asks 35 = .ok (.iadd, 1) := by decide +kernel
theorem dX9_asks_36 : decode cX9_asks 36 = .ok (.iload_n 3, 1) := by decide +kernel
theorem dX9_asks_37 : decode cX9_asks 37 = .ok (.iastore, 1) := by decide +kernel
theorem dX9_asks_38 : decode cX9_asks 38 = .ok (.aload_n 0, 1) := by decide +kernel
theorem dX9_asks_39 : decode cX9_asks 39 = .ok (.iload 5, 2) := by decide +kernel
theorem dX9_asks_41 : decode cX9_asks 41 = .ok (.iconst 3, 1) := by decide +kernel
theorem dX9_asks_42 : decode cX9_asks 42 = .ok (.iadd, 1) := by decide +kernel
theorem dX9_asks_43 : decode cX9_asks 43 = .ok (.iconst 0, 1) := by decide +kernel
theorem dX9_asks_44 : decode cX9_asks 44 = .ok (.iastore, 1) := by decide +kernel
theorem dX9_asks_45 : decode cX9_asks 45 = .ok (.aload_n 0, 1) := by decide +kernel
theorem dX9_asks_46 : decode cX9_asks 46 = .ok (.iload 5, 2) := by decide +kernel
theorem dX9_asks_48 : decode cX9_asks 48 = .ok (.iconst 4, 1) := by decide +kernel
theorem dX9_asks_49 : decode cX9_asks 49 = .ok (.iadd, 1) := by decide +kernel
theorem dX9_asks_50 : decode cX9_asks 50 = .ok (.iconst 0, 1) := by decide +kernel
theorem dX9_asks_51 : decode cX9_asks 51 = .ok (.iastore, 1) := by decide +kernel
theorem dX9_asks_52 : decode cX9_asks 52 = .ok (.aload_n 0, 1) := by decide +kernel
theorem dX9_asks_53 : decode cX9_asks 53 = .ok (.iload 5, 2) := by decide +kernel
theorem dX9_asks_55 : decode cX9_asks 55 = .ok (.iconst 5, 1) := by decide +kernel
theorem dX9_asks_56 : decode cX9_asks 56 = .ok (.iadd, 1) := by decide +kernel
theorem dX9_asks_57 : decode cX9_asks 57 = .ok (.iconst (-1), 1) := by decide +kernel
theorem dX9_asks_58 : decode cX9_asks 58 = .ok (.iastore, 1) := by decide +kernel
theorem dX9_asks_59 : decode cX9_asks 59 = .ok (.aload_n 0, 1) := by decide +kernel
theorem dX9_asks_60 : decode cX9_asks 60 = .ok (.iload 5, 2) := by decide +kernel
theorem dX9_asks_62 : decode cX9_asks 62 = .ok (.bipush 6, 2) := by decide +kernel
theorem dX9_asks_64 : decode cX9_asks 64 = .ok (.iadd, 1) := by decide +kernel
theorem dX9_asks_65 : decode cX9_asks 65 = .ok (.aload_n 0, 1) := by decide +kernel
theorem dX9_asks_66 : decode cX9_asks 66 = .ok (.iconst 0, 1) := by decide +kernel
theorem dX9_asks_67 : decode cX9_asks 67 = .ok (.iaload, 1) := by decide +kernel
theorem dX9_asks_68 : decode cX9_asks 68 = .ok (.iastore, 1) := by decide +kernel
theorem dX9_asks_69 : decode cX9_asks 69 = .ok (.aload_n 0, 1) := by decide +kernel
theorem dX9_asks_70 : decode cX9_asks 70 = .ok (.bipush 7, 2) := by decide +kernel
theorem dX9_asks_72 : decode cX9_asks 72 = .ok (.iload 4, 2) := by decide +kernel
theorem dX9_asks_74 : decode cX9_asks 74 = .ok (.iconst 1, 1) := by decide +kernel
theorem dX9_asks_75 : decode cX9_asks 75 = .ok (.iadd, 1) := by decide +kernel
theorem dX9_asks_76 : decode cX9_asks 76 = .ok (.iastore, 1) := by decide +kernel
theorem dX9_asks_77 : decode cX9_asks 77 = .ok (.iload 4, 2) := by decide +kernel
theorem dX9_asks_79 : decode cX9_asks 79 = .ok (.ireturn, 1) := by decide +kernel
theorem dX9_finesFor_0 : decode cX9_finesFor 0 = .ok (.aload_n 0, 1) := by decide +kernel
theorem dX9_finesFor_1 : decode cX9_finesFor 1 = .ok (.iload_n 1, 1) := by decide +kernel
theorem dX9_finesFor_2 : decode cX9_finesFor 2 = .ok (.iconst 0, 1) := by decide +kernel
theorem dX9_finesFor_3 : decode cX9_finesFor 3 = .ok (.invokevirtual 106, 3) := by decide +kernel
theorem dX9_finesFor_6 : decode cX9_finesFor 6 = .ok (.istore_n 2, 1) := by decide +kernel
theorem dX9_finesFor_7 : decode cX9_finesFor 7 = .ok (.aload_n 0, 1) := by decide +kernel
theorem dX9_finesFor_8 : decode cX9_finesFor 8 = .ok (.iload_n 1, 1) := by decide +kernel
theorem dX9_finesFor_9 : decode cX9_finesFor 9 = .ok (.iconst 1, 1) := by decide +kernel
theorem dX9_finesFor_10 : decode cX9_finesFor 10 = .ok (.invokevirtual 106, 3) := by decide +kernel
theorem dX9_finesFor_13 : decode cX9_finesFor 13 = .ok (.aload_n 0, 1) := by decide +kernel
theorem dX9_finesFor_14 : decode cX9_finesFor 14 = .ok (.getfield 13, 3) := by decide +kernel
theorem dX9_finesFor_17 : decode cX9_finesFor 17 = .ok (.iconst 3, 1) := by decide +kernel
theorem dX9_finesFor_18 : decode cX9_finesFor 18 = .ok (.iaload, 1) := by decide +kernel
theorem dX9_finesFor_19 : decode cX9_finesFor 19 = .ok (.invokestatic 96, 3) := by decide +kernel
theorem dX9_finesFor_22 : decode cX9_finesFor 22 = .ok (.istore_n 3, 1) := by decide +kernel
theorem dX9_finesFor_23 : decode cX9_finesFor 23 = .ok (.aload_n 0, 1) := by decide +kernel
theorem dX9_finesFor_24 : decode cX9_finesFor 24 = .ok (.getfield 13, 3) := by decide +kernel
theorem dX9_finesFor_27 : decode cX9_finesFor 27 = .ok (.iconst 0, 1) := by decide +kernel
theorem dX9_finesFor_28 : decode cX9_finesFor 28 = .ok (.iaload, 1) := by decide +kernel
theorem dX9_finesFor_29 : decode cX9_finesFor 29 = .ok (.iload_n 3, 1) := by decide +kernel
theorem dX9_finesFor_30 : decode cX9_finesFor 30 = .ok (.isub, 1) := by decide +kernel
theorem dX9_finesFor_31 : decode cX9_finesFor 31 = .ok (.aload_n 0, 1) := by decide +kernel
theorem dX9_finesFor_32 : decode cX9_finesFor 32 = .ok (.iload_n 1, 1) := by decide +kernel
theorem dX9_finesFor_33 : decode cX9_finesFor 33 = .ok (.invokevirtual 103, 3) := by decide +kernel
theorem dX9_finesFor_36 : decode cX9_finesFor 36 = .ok (.imul, 1) := by decide +kernel
theorem dX9_finesFor_37 : decode cX9_finesFor 37 = .ok (.istore 4, 2) := by decide +kernel
theorem dX9_finesFor_39 : decode cX9_finesFor 39 = .ok (.sipush 200, 3) := by decide +kernel
theorem dX9_finesFor_42 : decode cX9_finesFor 42 = .ok (.iload 4, 2) := by decide +kernel
theorem dX9_finesFor_44 : decode cX9_finesFor 44 = .ok (.aload_n 0, 1) := by decide +kernel
theorem dX9_finesFor_45 : decode cX9_finesFor 45 = .ok (.getfield 117, 3) := by decide +kernel
theorem dX9_finesFor_48 : decode cX9_finesFor 48 = .ok (.aload_n 0, 1) := by decide +kernel
theorem dX9_finesFor_49 : decode cX9_finesFor 49 = .ok (.iload_n 2, 1) := by decide +kernel
theorem dX9_finesFor_50 : decode cX9_finesFor 50 = .ok (.iconst 0, 1) := by decide +kernel
theorem dX9_finesFor_51 : decode cX9_finesFor 51 = .ok (.invokevirtual 120, 3) := by decide +kernel
theorem dX9_finesFor_54 : decode cX9_finesFor 54 = .ok (.iadd, 1) := by decide +kernel
theorem dX9_finesFor_55 : decode cX9_finesFor 55 = .ok (.imul, 1) := by decide +kernel
theorem dX9_finesFor_56 : decode cX9_finesFor 56 = .ok (.bipush 100, 2) := by decide +kernel
theorem dX9_finesFor_58 : decode cX9_finesFor 58 = .ok (.invokestatic 123, 3) := by decide +kernel
theorem dX9_finesFor_61 : decode cX9_finesFor 61 = .ok (.invokestatic 126, 3) := by decide +kernel
theorem dX9_finesFor_64 : decode cX9_finesFor 64 = .ok (.istore 5, 2) := by decide +kernel
theorem dX9_finesFor_66 : decode cX9_finesFor 66 = .ok (.aload_n 0, 1) := by decide +kernel
theorem dX9_finesFor_67 : decode cX9_finesFor 67 = .ok (.iload_n 2, 1) := by decide +kernel
theorem dX9_finesFor_68 : decode cX9_finesFor 68 = .ok (.iconst 1, 1) := by decide +kernel
theorem dX9_finesFor_69 : decode cX9_finesFor 69 = .ok (.sipush 999, 3) := by decide +kernel
theorem dX9_finesFor_72 : decode cX9_finesFor 72 = .ok (.aload_n 0, 1) := by decide +kernel
theorem dX9_finesFor_73 : decode cX9_finesFor 73 = .ok (.iload_n 2, 1) := by decide +kernel
theorem dX9_finesFor_74 : decode cX9_finesFor 74 = .ok (.iconst 1, 1) := by decide +kernel
theorem dX9_finesFor_75 : decode cX9_finesFor 75 = .ok (.invokevirtual 120, 3) := by decide +kernel
theorem dX9_finesFor_78 : decode cX9_finesFor 78 = .ok (.iload 5, 2) := by decide +kernel
theorem dX9_finesFor_80 : decode cX9_finesFor 80 = .ok (.iadd, 1) := by decide +kernel
theorem dX9_finesFor_81 : decode cX9_finesFor 81 = .ok (.invokestatic 126, 3) := by decide +kernel
theorem dX9_finesFor_84 : decode cX9_finesFor 84 = .ok (.invokevirtual 129, 3) := by decide +kernel
theorem dX9_finesFor_87 : decode cX9_finesFor 87 = .ok (.aload_n 0, 1) := by decide +kernel
theorem dX9_finesFor_88 : decode cX9_finesFor 88 = .ok (.iload_n 2, 1) := by decide +kernel
theorem dX9_finesFor_89 : decode cX9_finesFor 89 = .ok (.iconst 0, 1) := by decide +kernel
theorem dX9_finesFor_90 : decode cX9_finesFor 90 = .ok (.sipush 999, 3) := by decide +kernel
theorem dX9_finesFor_93 : decode cX9_finesFor 93 = .ok (.aload_n 0, 1) := by decide +kernel
theorem dX9_finesFor_94 : decode cX9_finesFor 94 = .ok (.iload_n 2, 1) := by decide +kernel
theorem dX9_finesFor_95 : decode cX9_finesFor 95 = .ok (.iconst 0, 1) := by decide +kernel
theorem dX9_finesFor_96 : decode cX9_finesFor 96 = .ok (.invokevirtual 120, 3) := by decide +kernel
theorem dX9_finesFor_99 : decode cX9_finesFor 99 = .ok (.iload 4, 2) := by decide +kernel
theorem dX9_finesFor_101 : decode cX9_finesFor 101 = .ok (.iadd, 1) := by decide +kernel
theorem dX9_finesFor_102 : decode cX9_finesFor 102 = .ok (.invokestatic 126, 3) := by decide +kernel
theorem dX9_finesFor_105 : decode cX9_finesFor 105 = .ok (.invokevirtual 129, 3) := by decide +kernel
theorem dX9_finesFor_108 : decode cX9_finesFor 108 = .ok (.aload_n 0, 1) := by decide +kernel
theorem dX9_finesFor_109 : decode cX9_finesFor 109 = .ok (.iload_n 2, 1) := by decide +kernel
theorem dX9_finesFor_110 : decode cX9_finesFor 110 = .ok (.iconst 4, 1) := by decide +kernel
theorem dX9_finesFor_111 : decode cX9_finesFor 111 = .ok (.aload_n 0, 1) := by decide +kernel
theorem dX9_finesFor_112 : decode cX9_finesFor 112 = .ok (.iload_n 2, 1) := by decide +kernel
theorem dX9_finesFor_113 : decode cX9_finesFor 113 = .ok (.iconst 4, 1) := by decide +kernel
theorem dX9_finesFor_114 : decode cX9_finesFor 114 = .ok (.invokevirtual 120, 3) := by decide +kernel
theorem dX9_finesFor_117 : decode cX9_finesFor 117 = .ok (.iconst 1, 1) := by decide +kernel
theorem dX9_finesFor_118 : decode cX9_finesFor 118 = .ok (.iadd, 1) := by decide +kernel
theorem dX9_finesFor_119 : decode cX9_finesFor 119 = .ok (.invokevirtual 129, 3) := by decide +kernel
theorem dX9_finesFor_122 : decode cX9_finesFor 122 = .ok (.aload_n 0, 1) := by decide +kernel
theorem dX9_finesFor_123 : decode cX9_finesFor 123 = .ok (.getfield 13, 3) := by decide +kernel
theorem dX9_finesFor_126 : decode cX9_finesFor 126 = .ok (.iconst 4, 1) := by decide +kernel
theorem dX9_finesFor_127 : decode cX9_finesFor 127 = .ok (.iaload, 1) := by decide +kernel
theorem dX9_finesFor_128 : decode cX9_finesFor 128 = .ok (.invokestatic 85, 3) := by decide +kernel
theorem dX9_finesFor_131 : decode cX9_finesFor 131 = .ok (.istore 6, 2) := by decide +kernel
theorem dX9_finesFor_133 : decode cX9_finesFor 133 = .ok (.aload_n 0, 1) := by decide +kernel
theorem dX9_finesFor_134 : decode cX9_finesFor 134 = .ok (.getfield 13, 3) := by decide +kernel
theorem dX9_finesFor_137 : decode cX9_finesFor 137 = .ok (.iload 6, 2) := by decide +kernel
theorem dX9_finesFor_139 : decode cX9_finesFor 139 = .ok (.iconst 0, 1) := by decide +kernel
theorem dX9_finesFor_140 : decode cX9_finesFor 140 = .ok (.iadd, 1) := by decide +kernel
theorem dX9_finesFor_141 : decode cX9_finesFor 141 = .ok (.iload_n 2, 1) := by decide +kernel
theorem dX9_finesFor_142 : decode cX9_finesFor 142 = .ok (.iastore, 1) := by decide +kernel
theorem dX9_finesFor_143 : decode cX9_finesFor 143 = .ok (.aload_n 0, 1) := by decide +kernel
theorem dX9_finesFor_144 : decode cX9_finesFor 144 = .ok (.getfield 13, 3) := by decide +kernel
theorem dX9_finesFor_147 : decode cX9_finesFor 147 = .ok (.iload 6, 2) := by decide +kernel
theorem dX9_finesFor_149 : decode cX9_finesFor 149 = .ok (.iconst 1, 1) := by decide +kernel
theorem dX9_finesFor_150 : decode cX9_finesFor 150 = .ok (.iadd, 1) := by decide +kernel
theorem dX9_finesFor_151 : decode cX9_finesFor 151 = .ok (.iload_n 1, 1) := by decide +kernel
theorem dX9_finesFor_152 : decode cX9_finesFor 152 = .ok (.iastore, 1) := by decide +kernel
theorem dX9_finesFor_153 : decode cX9_finesFor 153 = .ok (.aload_n 0, 1) := by decide +kernel
theorem dX9_finesFor_154 : decode cX9_finesFor 154 = .ok (.getfield 13, 3) := by decide +kernel
theorem dX9_finesFor_157 : decode cX9_finesFor 157 = .ok (.iload 6, 2) := by decide +kernel
theorem dX9_finesFor_159 : decode cX9_finesFor 159 = .ok (.iconst 2, 1) := by decide +kernel
theorem dX9_finesFor_160 : decode cX9_finesFor 160 = .ok (.iadd, 1) := by decide +kernel
theorem dX9_finesFor_161 : decode cX9_finesFor 161 = .ok (.iload 4, 2) := by decide +kernel
theorem dX9_finesFor_163 : decode cX9_finesFor 163 = .ok (.iastore, 1) := by decide +kernel
theorem dX9_finesFor_164 : decode cX9_finesFor 164 = .ok (.aload_n 0, 1) := by decide +kernel
theorem dX9_finesFor_165 : decode cX9_finesFor 165 = .ok (.getfield 13, 3) := by decide +kernel
theorem dX9_finesFor_168 : decode cX9_finesFor 168 = .ok (.iload 6, 2) := by decide +kernel
theorem dX9_finesFor_170 : decode cX9_finesFor 170 = .ok (.iconst 3, 1) := by decide +kernel
theorem dX9_finesFor_171 : decode cX9_finesFor 171 = .ok (.iadd, 1) := by decide +kernel
theorem dX9_finesFor_172 : decode cX9_finesFor 172 = .ok (.iload_n 3, 1) := by decide +kernel
theorem dX9_finesFor_173 : decode cX9_finesFor 173 = .ok (.iastore, 1) := by decide +kernel
theorem dX9_finesFor_174 : decode cX9_finesFor 174 = .ok (.aload_n 0, 1) := by decide +kernel
theorem dX9_finesFor_175 : decode cX9_finesFor 175 = .ok (.getfield 13, 3) := by decide +kernel
theorem dX9_finesFor_178 : decode cX9_finesFor 178 = .ok (.iload 6, 2) := by decide +kernel
theorem dX9_finesFor_180 : decode cX9_finesFor 180 = .ok (.iconst 4, 1) := by decide +kernel
theorem dX9_finesFor_181 : decode cX9_finesFor 181 = .ok (.iadd, 1) := by decide +kernel
theorem dX9_finesFor_182 : decode cX9_finesFor 182 = .ok (.aload_n 0, 1) := by decide +kernel
theorem dX9_finesFor_183 : decode cX9_finesFor 183 = .ok (.getfield 13, 3) := by decide +kernel
theorem dX9_finesFor_186 : decode cX9_finesFor 186 = .ok (.iconst 0, 1) := by decide +kernel
theorem dX9_finesFor_187 : decode cX9_finesFor 187 = .ok (.iaload, 1) := by decide +kernel
theorem dX9_finesFor_188 : decode cX9_finesFor 188 = .ok (.iastore, 1) := by decide +kernel
theorem dX9_finesFor_189 : decode cX9_finesFor 189 = .ok (.aload_n 0, 1) := by decide +kernel
theorem dX9_finesFor_190 : decode cX9_finesFor 190 = .ok (.getfield 13, 3) := by decide +kernel
theorem dX9_finesFor_193 : decode cX9_finesFor 193 = .ok (.iload 6, 2) := by decide +kernel
theorem dX9_finesFor_195 : decode cX9_finesFor 195 = .ok (.iconst 5, 1) := by decide +kernel
theorem dX9_finesFor_196 : decode cX9_finesFor 196 = .ok (.iadd, 1) := by decide +kernel
theorem dX9_finesFor_197 : decode cX9_finesFor 197 = .ok (.iload 5, 2) := by decide +kernel
theorem dX9_finesFor_199 : decode cX9_finesFor 199 = .ok (.iastore, 1) := by decide +kernel
theorem dX9_finesFor_200 : decode cX9_finesFor 200 = .ok (.aload_n 0, 1) := by decide +kernel
theorem dX9_finesFor_201 : decode cX9_finesFor 201 = .ok (.getfield 13, 3) := by decide +kernel
theorem dX9_finesFor_204 : decode cX9_finesFor 204 = .ok (.iload 6, 2) := by decide +kernel
theorem dX9_finesFor_206 : decode cX9_finesFor 206 = .ok (.bipush 6, 2) := by decide +kernel
theorem dX9_finesFor_208 : decode cX9_finesFor 208 = .ok (.iadd, 1) := by decide +kernel
theorem dX9_finesFor_209 : decode cX9_finesFor 209 = .ok (.iconst 0, 1) := by decide +kernel
theorem dX9_finesFor_210 : decode cX9_finesFor 210 = .ok (.iastore, 1) := by decide +kernel
theorem dX9_finesFor_211 : decode cX9_finesFor 211 = .ok (.aload_n 0, 1) := by decide +kernel
theorem dX9_finesFor_212 : decode cX9_finesFor 212 = .ok (.getfield 13, 3) := by decide +kernel
theorem dX9_finesFor_215 : decode cX9_finesFor 215 = .ok (.iload 6, 2) := by decide +kernel
theorem dX9_finesFor_217 : decode cX9_finesFor 217 = .ok (.bipush 7, 2) := by decide +kernel
theorem dX9_finesFor_219 : decode cX9_finesFor 219 = .ok (.iadd, 1) := by decide +kernel
theorem dX9_finesFor_220 : decode cX9_finesFor 220 = .ok (.iload 5, 2) := by decide +kernel
theorem dX9_finesFor_222 : decode cX9_finesFor 222 = .ok (.iastore, 1) := by decide +kernel
theorem dX9_finesFor_223 : decode cX9_finesFor 223 = .ok (.aload_n 0, 1) := by decide +kernel
theorem dX9_finesFor_224 : decode cX9_finesFor 224 = .ok (.getfield 13, 3) := by decide +kernel
theorem dX9_finesFor_227 : decode cX9_finesFor 227 = .ok (.iconst 4, 1) := by decide +kernel
theorem dX9_finesFor_228 : decode cX9_finesFor 228 = .ok (.aload_n 0, 1) := by decide +kernel
theorem dX9_finesFor_229 : decode cX9_finesFor 229 = .ok (.getfield 13, 3) := by decide +kernel
theorem dX9_finesFor_232 : decode cX9_finesFor 232 = .ok (.iconst 4, 1) := by decide +kernel
theorem dX9_finesFor_233 : decode cX9_finesFor 233 = .ok (.iaload, 1) := by decide +kernel
theorem dX9_finesFor_234 : decode cX9_finesFor 234 = .ok (.iconst 1, 1) := by decide +kernel
theorem dX9_finesFor_235 : decode cX9_finesFor 235 = .ok (.iadd, 1) := by decide +kernel
theorem dX9_finesFor_236 : decode cX9_finesFor 236 = .ok (.iastore, 1) := by decide +kernel
theorem dX9_finesFor_237 : decode cX9_finesFor 237 = .ok (.iload_n 1, 1) := by decide +kernel
theorem dX9_finesFor_238 : decode cX9_finesFor 238 = .ok (.aload_n 0, 1) := by decide +kernel
theorem dX9_finesFor_239 : decode cX9_finesFor 239 = .ok (.getfield 32, 3) := by decide +kernel
theorem dX9_finesFor_242 : decode cX9_finesFor 242 = .ok (.if_icmp .ne 9, 3) := by decide +kernel
theorem dX9_finesFor_245 : decode cX9_finesFor 245 = .ok (.aload_n 0, 1) := by decide +kernel
theorem dX9_finesFor_246 : decode cX9_finesFor 246 = .ok (.iload 5, 2) := by decide +kernel
theorem dX9_finesFor_248 : decode cX9_finesFor 248 = .ok (.putfield 133, 3) := by decide +kernel
theorem dX9_finesFor_251 : decode cX9_finesFor 251 = .ok (.iload_n 2, 1) := by decide +kernel
theorem dX9_finesFor_252 : decode cX9_finesFor 252 = .ok (.aload_n 0, 1) := by decide +kernel
theorem dX9_finesFor_253 : decode cX9_finesFor 253 = .ok (.getfield 36, 3) := by decide +kernel
theorem dX9_finesFor_256 : decode cX9_finesFor 256 = .ok (.if_icmp .ne 14, 3) := by decide +kernel
theorem dX9_finesFor_259 : decode cX9_finesFor 259 = .ok (.aload_n 0, 1) := by decide +kernel
theorem dX9_finesFor_260 : decode cX9_finesFor 260 = .ok (.aload_n 0, 1) := by decide +kernel
theorem dX9_finesFor_261 : decode cX9_finesFor 261 = .ok (.getfield 136, 3) := by decide +kernel
theorem dX9_finesFor_264 : decode cX9_finesFor 264 = .ok (.iload 5, 2) := by decide +kernel
theorem dX9_finesFor_266 : decode cX9_finesFor 266 = .ok (.iadd, 1) := by decide +kernel
theorem dX9_finesFor_267 : decode cX9_finesFor 267 = .ok (.putfield 136, 3) := by decide +kernel
theorem dX9_finesFor_270 : decode cX9_finesFor 270 = .ok (.return_, 1) := by decide +kernel
theorem dX9_finesAll_0 : decode cX9_finesAll 0 = .ok (.iconst 0, 1) := by decide +kernel
theorem dX9_finesAll_1 : decode cX9_finesAll 1 = .ok (.istore_n 1, 1) := by decide +kernel
theorem dX9_finesAll_2 : decode cX9_finesAll 2 = .ok (.iload_n 1, 1) := by decide +kernel
theorem dX9_finesAll_3 : decode cX9_finesAll 3 = .ok (.aload_n 0, 1) := by decide +kernel
theorem dX9_finesAll_4 : decode cX9_finesAll 4 = .ok (.getfield 13, 3) := by decide +kernel
theorem dX9_finesAll_7 : decode cX9_finesAll 7 = .ok (.bipush 6, 2) := by decide +kernel
theorem dX9_finesAll_9 : decode cX9_finesAll 9 = .ok (.iaload, 1) := by decide +kernel
theorem dX9_finesAll_10 : decode cX9_finesAll 10 = .ok (.if_icmp .ge 22, 3) := by decide +kernel
theorem dX9_finesAll_13 : decode cX9_finesAll 13 = .ok (.aload_n 0, 1) := by decide +kernel
theorem dX9_finesAll_14 : decode cX9_finesAll 14 = .ok (.iload_n 1, 1) := by decide +kernel
theorem dX9_finesAll_15 : decode cX9_finesAll 15 = .ok (.invokevirtual 109, 3) := by decide +kernel
theorem dX9_finesAll_18 : decode cX9_finesAll 18 = .ok (.ifCond .eq 8, 3) := by decide +kernel
theorem dX9_finesAll_21 : decode cX9_finesAll 21 = .ok (.aload_n 0, 1) := by decide +kernel
theorem dX9_finesAll_22 : decode cX9_finesAll 22 = .ok (.iload_n 1, 1) := by decide +kernel
theorem dX9_finesAll_23 : decode cX9_finesAll 23 = .ok (.invokevirtual 113, 3) := by decide +kernel
theorem dX9_finesAll_26 : decode cX9_finesAll 26 = .ok (.iinc 1 1, 3) := by decide +kernel
theorem dX9_finesAll_29 : decode cX9_finesAll 29 = .ok (.goto (-27), 3) := by decide +kernel
theorem dX9_finesAll_32 : decode cX9_finesAll 32 = .ok (.return_, 1) := by decide +kernel
theorem dX9_rankOf_0 : decode cX9_rankOf 0 = .ok (.aload_n 0, 1) := by decide +kernel
theorem dX9_rankOf_1 : decode cX9_rankOf 1 = .ok (.getfield 13, 3) := by decide +kernel
theorem dX9_rankOf_4 : decode cX9_rankOf 4 = .ok (.iconst 1, 1) := by decide +kernel
theorem dX9_rankOf_5 : decode cX9_rankOf 5 = .ok (.iaload, 1) := by decide +kernel
theorem dX9_rankOf_6 : decode cX9_rankOf 6 = .ok (.istore_n 2, 1) := by decide +kernel
theorem dX9_rankOf_7 : decode cX9_rankOf 7 = .ok (.iload_n 2, 1) := by decide +kernel
theorem dX9_rankOf_8 : decode cX9_rankOf 8 = .ok (.iconst 1, 1) := by decide +kernel
theorem dX9_rankOf_9 : decode cX9_rankOf 9 = .ok (.if_icmp .ne 12, 3) := by decide +kernel
theorem dX9_rankOf_12 : decode cX9_rankOf 12 = .ok (.aload_n 0, 1) := by decide +kernel
theorem dX9_rankOf_13 : decode cX9_rankOf 13 = .ok (.iload_n 1, 1) := by decide +kernel
theorem dX9_rankOf_14 : decode cX9_rankOf 14 = .ok (.iconst 1, 1) := by decide +kernel
theorem dX9_rankOf_15 : decode cX9_rankOf 15 = .ok (.invokevirtual 139, 3) := by decide +kernel
theorem dX9_rankOf_18 : decode cX9_rankOf 18 = .ok (.goto 23, 3) := by decide +kernel
theorem dX9_rankOf_21 : decode cX9_rankOf 21 = .ok (.iload_n 2, 1) := by decide +kernel
theorem dX9_rankOf_22 : decode cX9_rankOf 22 = .ok (.iconst 2, 1) := by decide +kernel
theorem dX9_rankOf_23 : decode cX9_rankOf 23 = .ok (.if_icmp .ne 17, 3) := by decide +kernel
theorem dX9_rankOf_26 : decode cX9_rankOf 26 = .ok (.aload_n 0, 1) := by decide +kernel
theorem dX9_rankOf_27 : decode cX9_rankOf 27 = .ok (.aload_n 0, 1) := by decide +kernel
theorem dX9_rankOf_28 : decode cX9_rankOf 28 = .ok (.iload_n 1, 1) := by decide +kernel
theorem dX9_rankOf_29 : decode cX9_rankOf 29 = .ok (.iconst 0, 1) := by decide +kernel
theorem dX9_rankOf_30 : decode cX9_rankOf 30 = .ok (.invokevirtual 139, 3) := by decide +kernel
theorem dX9_rankOf_33 : decode cX9_rankOf 33 = .ok (.iconst 0, 1) := by decide +kernel
theorem dX9_rankOf_34 : decode cX9_rankOf 34 = .ok (.invokevirtual 120, 3) := by decide +kernel
theorem dX9_rankOf_37 : decode cX9_rankOf 37 = .ok (.goto 4, 3) := by decide +kernel
theorem dX9_rankOf_40 : decode cX9_rankOf 40 = .ok (.iconst 0, 1) := by decide +kernel
theorem dX9_rankOf_41 : decode cX9_rankOf 41 = .ok (.ireturn, 1) := by decide +kernel
theorem dX9_doesWait_0 : decode cX9_doesWait 0 = .ok (.aload_n 0, 1) := by decide +kernel
theorem dX9_doesWait_1 : decode cX9_doesWait 1 = .ok (.iload_n 1, 1) := by decide +kernel
theorem dX9_doesWait_2 : decode cX9_doesWait 2 = .ok (.iconst 3, 1) := by decide +kernel
theorem dX9_doesWait_3 : decode cX9_doesWait 3 = .ok (.invokevirtual 139, 3) := by decide +kernel
theorem dX9_doesWait_6 : decode cX9_doesWait 6 = .ok (.ifCond .ne 7, 3) := by decide +kernel
theorem dX9_doesWait_9 : decode cX9_doesWait 9 = .ok (.iconst 1, 1) := by decide +kernel
theorem dX9_doesWait_10 : decode cX9_doesWait 10 = .ok (.goto 4, 3) := by decide +kernel
theorem dX9_doesWait_13 : decode cX9_doesWait 13 = .ok (.iconst 0, 1) := by decide +kernel
theorem dX9_doesWait_14 : decode cX9_doesWait 14 = .ok (.ireturn, 1) := by decide +kernel
theorem dX9_lines_0 : decode cX9_lines 0 = .ok (.iconst 0, 1) := by decide +kernel
theorem dX9_lines_1 : decode cX9_lines 1 = .ok (.istore_n 1, 1) := by decide +kernel
theorem dX9_lines_2 : decode cX9_lines 2 = .ok (.iconst 0, 1) := by decide +kernel
theorem dX9_lines_3 : decode cX9_lines 3 = .ok (.istore_n 2, 1) := by decide +kernel
theorem dX9_lines_4 : decode cX9_lines 4 = .ok (.iload_n 2, 1) := by decide +kernel
theorem dX9_lines_5 : decode cX9_lines 5 = .ok (.aload_n 0, 1) := by decide +kernel
theorem dX9_lines_6 : decode cX9_lines 6 = .ok (.getfield 13, 3) := by decide +kernel
theorem dX9_lines_9 : decode cX9_lines 9 = .ok (.bipush 7, 2) := by decide +kernel
theorem dX9_lines_11 : decode cX9_lines 11 = .ok (.iaload, 1) := by decide +kernel
theorem dX9_lines_12 : decode cX9_lines 12 = .ok (.if_icmp .ge 78, 3) := by decide +kernel
theorem dX9_lines_15 : decode cX9_lines 15 = .ok (.aload_n 0, 1) := by decide +kernel
theorem dX9_lines_16 : decode cX9_lines 16 = .ok (.iload_n 2, 1) := by decide +kernel
theorem dX9_lines_17 : decode cX9_lines 17 = .ok (.invokevirtual 142, 3) := by decide +kernel
theorem dX9_lines_20 : decode cX9_lines 20 = .ok (.ifCond .ne 6, 3) := by decide +kernel
theorem dX9_lines_23 : decode cX9_lines 23 = .ok (.goto 61, 3) := by decide +kernel
theorem dX9_lines_26 : decode cX9_lines 26 = .ok (.iload_n 1, 1) := by decide +kernel
theorem dX9_lines_27 : decode cX9_lines 27 = .ok (.istore_n 3, 1) := by decide +kernel
theorem dX9_lines_28 : decode cX9_lines 28 = .ok (.iload_n 3, 1) := by decide +kernel
theorem dX9_lines_29 : decode cX9_lines 29 = .ok (.ifCond .le 44, 3) := by decide +kernel
theorem dX9_lines_32 : decode cX9_lines 32 = .ok (.aload_n 0, 1) := by decide +kernel
theorem dX9_lines_33 : decode cX9_lines 33 = .ok (.aload_n 0, 1) := by decide +kernel
theorem dX9_lines_34 : decode cX9_lines 34 = .ok (.getfield 39, 3) := by decide +kernel
theorem dX9_lines_37 : decode cX9_lines 37 = .ok (.iload_n 3, 1) := by decide +kernel
theorem dX9_lines_38 : decode cX9_lines 38 = .ok (.iconst 1, 1) := by decide +kernel
theorem dX9_lines_39 : decode cX9_lines 39 = .ok (.isub, 1) := by decide +kernel
theorem dX9_lines_40 : decode cX9_lines 40 = .ok (.iaload, 1) := by decide +kernel
theorem dX9_lines_41 : decode cX9_lines 41 = .ok (.invokevirtual 145, 3) := by decide +kernel
theorem dX9_lines_44 : decode cX9_lines 44 = .ok (.aload_n 0, 1) := by decide +kernel
theorem dX9_lines_45 : decode cX9_lines 45 = .ok (.iload_n 2, 1) := by decide +kernel
theorem dX9_lines_46 : decode cX9_lines 46 = .ok (.invokevirtual 145, 3) := by decide +kernel
theorem dX9_lines_49 : decode cX9_lines 49 = .ok (.if_icmp .le 24, 3) := by decide +kernel
theorem dX9_lines_52 : decode cX9_lines 52 = .ok (.aload_n 0, 1) := by decide +kernel
theorem dX9_lines_53 : decode cX9_lines 53 = .ok (.getfield 39, 3) := by decide +kernel
theorem dX9_lines_56 : decode cX9_lines 56 = .ok (.iload_n 3, 1) := by decide +kernel
theorem dX9_lines_57 : decode cX9_lines 57 = .ok (.aload_n 0, 1) := by decide +kernel
theorem dX9_lines_58 : decode cX9_lines 58 = .ok (.getfield 39, 3) := by decide +kernel
theorem dX9_lines_61 : decode cX9_lines 61 = .ok (.iload_n 3, 1) := by decide +kernel
theorem dX9_lines_62 : decode cX9_lines 62 = .ok (.iconst 1, 1) := by decide +kernel
theorem dX9_lines_63 : decode cX9_lines 63 = .ok (.isub, 1) := by decide +kernel
theorem dX9_lines_64 : decode cX9_lines 64 = .ok (.iaload, 1) := by decide +kernel
theorem dX9_lines_65 : decode cX9_lines 65 = .ok (.iastore, 1) := by decide +kernel
theorem dX9_lines_66 : decode cX9_lines 66 = .ok (.iload_n 3, 1) := by decide +kernel
theorem dX9_lines_67 : decode cX9_lines 67 = .ok (.iconst 1, 1) := by decide +kernel
theorem dX9_lines_68 : decode cX9_lines 68 = .ok (.isub, 1) := by decide +kernel
theorem dX9_lines_69 : decode cX9_lines 69 = .ok (.istore_n 3, 1) := by decide +kernel
theorem dX9_lines_70 : decode cX9_lines 70 = .ok (.goto (-42), 3) := by decide +kernel
theorem dX9_lines_73 : decode cX9_lines 73 = .ok (.aload_n 0, 1) := by decide +kernel
theorem dX9_lines_74 : decode cX9_lines 74 = .ok (.getfield 39, 3) := by decide +kernel
theorem dX9_lines_77 : decode cX9_lines 77 = .ok (.iload_n 3, 1) := by decide +kernel
theorem dX9_lines_78 : decode cX9_lines 78 = .ok (.iload_n 2, 1) := by decide +kernel
theorem dX9_lines_79 : decode cX9_lines 79 = .ok (.iastore, 1) := by decide +kernel
theorem dX9_lines_80 : decode cX9_lines 80 = .ok (.iload_n 1, 1) := by decide +kernel
theorem dX9_lines_81 : decode cX9_lines 81 = .ok (.iconst 1, 1) := by decide +kernel
theorem dX9_lines_82 : decode cX9_lines 82 = .ok (.iadd, 1) := by decide +kernel
theorem dX9_lines_83 : decode cX9_lines 83 = .ok (.istore_n 1, 1) := by decide +kernel
theorem dX9_lines_84 : decode cX9_lines 84 = .ok (.iinc 2 1, 3) := by decide +kernel
theorem dX9_lines_87 : decode cX9_lines 87 = .ok (.goto (-83), 3) := by decide +kernel
theorem dX9_lines_90 : decode cX9_lines 90 = .ok (.iload_n 1, 1) := by decide +kernel
theorem dX9_lines_91 : decode cX9_lines 91 = .ok (.ireturn, 1) := by decide +kernel
theorem dX9_putsOff_0 : decode cX9_putsOff 0 = .ok (.sipush 602, 3) := by decide +kernel
theorem dX9_putsOff_3 : decode cX9_putsOff 3 = .ok (.bipush 7, 2) := by decide +kernel
theorem dX9_putsOff_5 : decode cX9_putsOff 5 = .ok (.iload_n 1, 1) := by decide +kernel
theorem dX9_putsOff_6 : decode cX9_putsOff 6 = .ok (.imul, 1) := by decide +kernel
theorem dX9_putsOff_7 : decode cX9_putsOff 7 = .ok (.iadd, 1) := by decide +kernel
theorem dX9_putsOff_8 : decode cX9_putsOff 8 = .ok (.istore_n 2, 1) := by decide +kernel
theorem dX9_putsOff_9 : decode cX9_putsOff 9 = .ok (.aload_n 0, 1) := by decide +kernel
theorem dX9_putsOff_10 : decode cX9_putsOff 10 = .ok (.getfield 13, 3) := by decide +kernel
theorem dX9_putsOff_13 : decode cX9_putsOff 13 = .ok (.iload_n 2, 1) := by decide +kernel
theorem dX9_putsOff_14 : decode cX9_putsOff 14 = .ok (.iconst 4, 1) := by decide +kernel
theorem dX9_putsOff_15 : decode cX9_putsOff 15 = .ok (.iadd, 1) := by decide +kernel
theorem dX9_putsOff_16 : decode cX9_putsOff 16 = .ok (.aload_n 0, 1) := by decide +kernel
theorem dX9_putsOff_17 : decode cX9_putsOff 17 = .ok (.getfield 13, 3) := by decide +kernel
theorem dX9_putsOff_20 : decode cX9_putsOff 20 = .ok (.iload_n 2, 1) := by decide +kernel
theorem dX9_putsOff_21 : decode cX9_putsOff 21 = .ok (.iconst 4, 1) := by decide +kernel
theorem dX9_putsOff_22 : decode cX9_putsOff 22 = .ok (.iadd, 1) := by decide +kernel
theorem dX9_putsOff_23 : decode cX9_putsOff 23 = .ok (.iaload, 1) := by decide +kernel
theorem dX9_putsOff_24 : decode cX9_putsOff 24 = .ok (.iconst 1, 1) := by decide +kernel
theorem dX9_putsOff_25 : decode cX9_putsOff 25 = .ok (.iadd, 1) := by decide +kernel
theorem dX9_putsOff_26 : decode cX9_putsOff 26 = .ok (.iastore, 1) := by decide +kernel
theorem dX9_putsOff_27 : decode cX9_putsOff 27 = .ok (.aload_n 0, 1) := by decide +kernel
theorem dX9_putsOff_28 : decode cX9_putsOff 28 = .ok (.getfield 13, 3) := by decide +kernel
theorem dX9_putsOff_31 : decode cX9_putsOff 31 = .ok (.iload_n 2, 1) := by decide +kernel
theorem dX9_putsOff_32 : decode cX9_putsOff 32 = .ok (.iconst 4, 1) := by decide +kernel
theorem dX9_putsOff_33 : decode cX9_putsOff 33 = .ok (.iadd, 1) := by decide +kernel
theorem dX9_putsOff_34 : decode cX9_putsOff 34 = .ok (.iaload, 1) := by decide +kernel
theorem dX9_putsOff_35 : decode cX9_putsOff 35 = .ok (.aload_n 0, 1) := by decide +kernel
theorem dX9_putsOff_36 : decode cX9_putsOff 36 = .ok (.getfield 148, 3) := by decide +kernel
theorem dX9_putsOff_39 : decode cX9_putsOff 39 = .ok (.if_icmp .ge 4, 3) := by decide +kernel
theorem dX9_putsOff_42 : decode cX9_putsOff 42 = .ok (.return_, 1) := by decide +kernel
theorem dX9_putsOff_43 : decode cX9_putsOff 43 = .ok (.aload_n 0, 1) := by decide +kernel
theorem dX9_putsOff_44 : decode cX9_putsOff 44 = .ok (.getfield 13, 3) := by decide +kernel
theorem dX9_putsOff_47 : decode cX9_putsOff 47 = .ok (.iload_n 2, 1) := by decide +kernel
theorem dX9_putsOff_48 : decode cX9_putsOff 48 = .ok (.iconst 3, 1) := by decide +kernel
theorem dX9_putsOff_49 : decode cX9_putsOff 49 = .ok (.iadd, 1) := by decide +kernel
theorem dX9_putsOff_50 : decode cX9_putsOff 50 = .ok (.iconst 2, 1) := by decide +kernel
theorem dX9_putsOff_51 : decode cX9_putsOff 51 = .ok (.iastore, 1) := by decide +kernel
theorem dX9_putsOff_52 : decode cX9_putsOff 52 = .ok (.aload_n 0, 1) := by decide +kernel
theorem dX9_putsOff_53 : decode cX9_putsOff 53 = .ok (.getfield 13, 3) := by decide +kernel
theorem dX9_putsOff_56 : decode cX9_putsOff 56 = .ok (.bipush 9, 2) := by decide +kernel
theorem dX9_putsOff_58 : decode cX9_putsOff 58 = .ok (.aload_n 0, 1) := by decide +kernel
theorem dX9_putsOff_59 : decode cX9_putsOff 59 = .ok (.getfield 13, 3) := by decide +kernel
theorem dX9_putsOff_62 : decode cX9_putsOff 62 = .ok (.bipush 9, 2) := by decide +kernel
theorem dX9_putsOff_64 : decode cX9_putsOff 64 = .ok (.iaload, 1) := by decide +kernel
theorem dX9_putsOff_65 : decode cX9_putsOff 65 = .ok (.iconst 1, 1) := by decide +kernel
theorem dX9_putsOff_66 : decode cX9_putsOff 66 = .ok (.iadd, 1) := by decide +kernel
theorem dX9_putsOff_67 : decode cX9_putsOff 67 = .ok (.iastore, 1) := by decide +kernel
theorem dX9_putsOff_68 : decode cX9_putsOff 68 = .ok (.return_, 1) := by decide +kernel
theorem dX9_takesBack_0 : decode cX9_takesBack 0 = .ok (.iload_n 1, 1) := by decide +kernel
theorem dX9_takesBack_1 : decode cX9_takesBack 1 = .ok (.istore_n 2, 1) := by decide +kernel
theorem dX9_takesBack_2 : decode cX9_takesBack 2 = .ok (.iload_n 2, 1) := by decide +kernel
theorem dX9_takesBack_3 : decode cX9_takesBack 3 = .ok (.ifCond .le 72, 3) := by decide +kernel
theorem dX9_takesBack_6 : decode cX9_takesBack 6 = .ok (.aload_n 0, 1) := by decide +kernel
theorem dX9_takesBack_7 : decode cX9_takesBack 7 = .ok (.invokevirtual 151, 3) := by decide +kernel
theorem dX9_takesBack_10 : decode cX9_takesBack 10 = .ok (.istore_n 3, 1) := by decide +kernel
theorem dX9_takesBack_11 : decode cX9_takesBack 11 = .ok (.iload_n 2, 1) := by decide +kernel
theorem dX9_takesBack_12 : decode cX9_takesBack 12 = .ok (.aload_n 0, 1) := by decide +kernel
theorem dX9_takesBack_13 : decode cX9_takesBack 13 = .ok (.iload_n 3, 1) := by decide +kernel
theorem dX9_takesBack_14 : decode cX9_takesBack 14 = .ok (.invokevirtual 103, 3) := by decide +kernel
theorem dX9_takesBack_17 : decode cX9_takesBack 17 = .ok (.invokestatic 126, 3) := by decide +kernel
theorem dX9_takesBack_20 : decode cX9_takesBack 20 = .ok (.istore 4, 2) := by decide +kernel
theorem dX9_takesBack_22 : decode cX9_takesBack 22 = .ok (.aload_n 0, 1) := by decide +kernel
theorem dX9_takesBack_23 : decode cX9_takesBack 23 = .ok (.iload_n 3, 1) := by decide +kernel
theorem dX9_takesBack_24 : decode cX9_takesBack 24 = .ok (.iload 4, 2) := by decide +kernel
theorem dX9_takesBack_26 : decode cX9_takesBack 26 = .ok (.invokevirtual 155, 3) := by decide +kernel
theorem dX9_takesBack_29 : decode cX9_takesBack 29 = .ok (.aload_n 0, 1) := by decide +kernel
theorem dX9_takesBack_30 : decode cX9_takesBack 30 = .ok (.getfield 13, 3) := by decide +kernel
theorem dX9_takesBack_33 : decode cX9_takesBack 33 = .ok (.bipush 58, 2) := by decide +kernel
theorem dX9_takesBack_35 : decode cX9_takesBack 35 = .ok (.bipush 6, 2) := by decide +kernel
theorem dX9_takesBack_37 : decode cX9_takesBack 37 = .ok (.iload_n 3, 1) := by decide +kernel
theorem dX9_takesBack_38 : decode cX9_takesBack 38 = .ok (.imul, 1) := by decide +kernel
theorem dX9_takesBack_39 : decode cX9_takesBack 39 = .ok (.iadd, 1) := by decide +kernel
theorem dX9_takesBack_40 : decode cX9_takesBack 40 = .ok (.iconst 4, 1) := by decide +kernel
theorem dX9_takesBack_41 : decode cX9_takesBack 41 = .ok (.iadd, 1) := by decide +kernel
theorem dX9_takesBack_42 : decode cX9_takesBack 42 = .ok (.aload_n 0, 1) := by decide +kernel
theorem dX9_takesBack_43 : decode cX9_takesBack 43 = .ok (.iload_n 3, 1) := by decide +kernel
theorem dX9_takesBack_44 : decode cX9_takesBack 44 = .ok (.iconst 4, 1) := by decide +kernel
theorem dX9_takesBack_45 : decode cX9_takesBack 45 = .ok (.invokevirtual 106, 3) := by decide +kernel
theorem dX9_takesBack_48 : decode cX9_takesBack 48 = .ok (.iload 4, 2) := by decide +kernel
theorem dX9_takesBack_50 : decode cX9_takesBack 50 = .ok (.iadd, 1) := by decide +kernel
theorem dX9_takesBack_51 : decode cX9_takesBack 51 = .ok (.iastore, 1) := by decide +kernel
theorem dX9_takesBack_52 : decode cX9_takesBack 52 = .ok (.aload_n 0, 1) := by decide +kernel
theorem dX9_takesBack_53 : decode cX9_takesBack 53 = .ok (.getfield 13, 3) := by decide +kernel
theorem dX9_takesBack_56 : decode cX9_takesBack 56 = .ok (.iconst 5, 1) := by decide +kernel
theorem dX9_takesBack_57 : decode cX9_takesBack 57 = .ok (.aload_n 0, 1) := by decide +kernel
theorem dX9_takesBack_58 : decode cX9_takesBack 58 = .ok (.getfield 13, 3) := by decide +kernel
theorem dX9_takesBack_61 : decode cX9_takesBack 61 = .ok (.iconst 5, 1) := by decide +kernel
theorem dX9_takesBack_62 : decode cX9_takesBack 62 = .ok (.iaload, 1) := by decide +kernel
theorem dX9_takesBack_63 : decode cX9_takesBack 63 = .ok (.iload 4, 2) := by decide +kernel
theorem dX9_takesBack_65 : decode cX9_takesBack 65 = .ok (.iadd, 1) := by decide +kernel
theorem dX9_takesBack_66 : decode cX9_takesBack 66 = .ok (.iastore, 1) := by decide +kernel
theorem dX9_takesBack_67 : decode cX9_takesBack 67 = .ok (.iload_n 2, 1) := by decide +kernel
theorem dX9_takesBack_68 : decode cX9_takesBack 68 = .ok (.iload 4, 2) := by decide +kernel
theorem dX9_takesBack_70 : decode cX9_takesBack 70 = .ok (.isub, 1) := by decide +kernel
theorem dX9_takesBack_71 : decode cX9_takesBack 71 = .ok (.istore_n 2, 1) := by decide +kernel
theorem dX9_takesBack_72 : decode cX9_takesBack 72 = .ok (.goto (-70), 3) := by decide +kernel
theorem dX9_takesBack_75 : decode cX9_takesBack 75 = .ok (.return_, 1) := by decide +kernel
theorem dX9_meets_0 : decode cX9_meets 0 = .ok (.sipush 602, 3) := by decide +kernel
theorem dX9_meets_3 : decode cX9_meets 3 = .ok (.bipush 7, 2) := by decide +kernel
theorem dX9_meets_5 : decode cX9_meets 5 = .ok (.iload_n 1, 1) := by decide +kernel
theorem dX9_meets_6 : decode cX9_meets 6 = .ok (.imul, 1) := by decide +kernel
theorem dX9_meets_7 : decode cX9_meets 7 = .ok (.iadd, 1) := by decide +kernel
theorem dX9_meets_8 : decode cX9_meets 8 = .ok (.istore_n 2, 1) := by decide +kernel
theorem dX9_meets_9 : decode cX9_meets 9 = .ok (.aload_n 0, 1) := by decide +kernel
theorem dX9_meets_10 : decode cX9_meets 10 = .ok (.getfield 13, 3) := by decide +kernel
theorem dX9_meets_13 : decode cX9_meets 13 = .ok (.iload_n 2, 1) := by decide +kernel
theorem dX9_meets_14 : decode cX9_meets 14 = .ok (.iconst 0, 1) := by decide +kernel
theorem dX9_meets_15 : decode cX9_meets 15 = .ok (.iadd, 1) := by decide +kernel
theorem dX9_meets_16 : decode cX9_meets 16 = .ok (.iaload, 1) := by decide +kernel
theorem dX9_meets_17 : decode cX9_meets 17 = .ok (.istore_n 3, 1) := by decide +kernel
theorem dX9_meets_18 : decode cX9_meets 18 = .ok (.aload_n 0, 1) := by decide +kernel
theorem dX9_meets_19 : decode cX9_meets 19 = .ok (.getfield 13, 3) := by decide +kernel
theorem dX9_meets_22 : decode cX9_meets 22 = .ok (.iload_n 2, 1) := by decide +kernel
theorem dX9_meets_23 : decode cX9_meets 23 = .ok (.iconst 3, 1) := by decide +kernel
theorem dX9_meets_24 : decode cX9_meets 24 = .ok (.iadd, 1) := by decide +kernel
theorem dX9_meets_25 : decode cX9_meets 25 = .ok (.iconst 1, 1) := by decide +kernel
theorem dX9_meets_26 : decode cX9_meets 26 = .ok (.iastore, 1) := by decide +kernel
theorem dX9_meets_27 : decode cX9_meets 27 = .ok (.aload_n 0, 1) := by decide +kernel
theorem dX9_meets_28 : decode cX9_meets 28 = .ok (.getfield 13, 3) := by decide +kernel
theorem dX9_meets_31 : decode cX9_meets 31 = .ok (.iload_n 2, 1) := by decide +kernel
theorem dX9_meets_32 : decode cX9_meets 32 = .ok (.iconst 5, 1) := by decide +kernel
theorem dX9_meets_33 : decode cX9_meets 33 = .ok (.iadd, 1) := by decide +kernel
theorem dX9_meets_34 : decode cX9_meets 34 = .ok (.aload_n 0, 1) := by decide +kernel
theorem dX9_meets_35 : decode cX9_meets 35 = .ok (.getfield 13, 3) := by decide +kernel
theorem dX9_meets_38 : decode cX9_meets 38 = .ok (.bipush 6, 2) := by decide +kernel
theorem dX9_meets_40 : decode cX9_meets 40 = .ok (.iaload, 1) := by decide +kernel
theorem dX9_meets_41 : decode cX9_meets 41 = .ok (.iastore, 1) := by decide +kernel
theorem dX9_meets_42 : decode cX9_meets 42 = .ok (.aload_n 0, 1) := by decide +kernel
theorem dX9_meets_43 : decode cX9_meets 43 = .ok (.getfield 13, 3) := by decide +kernel
theorem dX9_meets_46 : decode cX9_meets 46 = .ok (.bipush 8, 2) := by decide +kernel
theorem dX9_meets_48 : decode cX9_meets 48 = .ok (.aload_n 0, 1) := by decide +kernel
theorem dX9_meets_49 : decode cX9_meets 49 = .ok (.getfield 13, 3) := by decide +kernel
theorem dX9_meets_52 : decode cX9_meets 52 = .ok (.bipush 8, 2) := by decide +kernel
theorem dX9_meets_54 : decode cX9_meets 54 = .ok (.iaload, 1) := by decide +kernel
theorem dX9_meets_55 : decode cX9_meets 55 = .ok (.iconst 1, 1) := by decide +kernel
theorem dX9_meets_56 : decode cX9_meets 56 = .ok (.iadd, 1) := by decide +kernel
theorem dX9_meets_57 : decode cX9_meets 57 = .ok (.iastore, 1) := by decide +kernel
theorem dX9_meets_58 : decode cX9_meets 58 = .ok (.aload_n 0, 1) := by decide +kernel
theorem dX9_meets_59 : decode cX9_meets 59 = .ok (.iload_n 3, 1) := by decide +kernel
theorem dX9_meets_60 : decode cX9_meets 60 = .ok (.iconst 3, 1) := by decide +kernel
theorem dX9_meets_61 : decode cX9_meets 61 = .ok (.aload_n 0, 1) := by decide +kernel
theorem dX9_meets_62 : decode cX9_meets 62 = .ok (.iload_n 3, 1) := by decide +kernel
theorem dX9_meets_63 : decode cX9_meets 63 = .ok (.iconst 3, 1) := by decide +kernel
theorem dX9_meets_64 : decode cX9_meets 64 = .ok (.invokevirtual 120, 3) := by decide +kernel
theorem dX9_meets_67 : decode cX9_meets 67 = .ok (.iconst 1, 1) := by decide +kernel
theorem dX9_meets_68 : decode cX9_meets 68 = .ok (.iadd, 1) := by decide +kernel
theorem dX9_meets_69 : decode cX9_meets 69 = .ok (.invokevirtual 129, 3) := by decide +kernel
theorem dX9_meets_72 : decode cX9_meets 72 = .ok (.aload_n 0, 1) := by decide +kernel
theorem dX9_meets_73 : decode cX9_meets 73 = .ok (.getfield 13, 3) := by decide +kernel
theorem dX9_meets_76 : decode cX9_meets 76 = .ok (.iload_n 3, 1) := by decide +kernel
theorem dX9_meets_77 : decode cX9_meets 77 = .ok (.aload_n 0, 1) := by decide +kernel
theorem dX9_meets_78 : decode cX9_meets 78 = .ok (.getfield 13, 3) := by decide +kernel
theorem dX9_meets_81 : decode cX9_meets 81 = .ok (.iload_n 2, 1) := by decide +kernel
theorem dX9_meets_82 : decode cX9_meets 82 = .ok (.iconst 1, 1) := by decide +kernel
theorem dX9_meets_83 : decode cX9_meets 83 = .ok (.iadd, 1) := by decide +kernel
theorem dX9_meets_84 : decode cX9_meets 84 = .ok (.iaload, 1) := by decide +kernel
theorem dX9_meets_85 : decode cX9_meets 85 = .ok (.aload_n 0, 1) := by decide +kernel
theorem dX9_meets_86 : decode cX9_meets 86 = .ok (.getfield 13, 3) := by decide +kernel
theorem dX9_meets_89 : decode cX9_meets 89 = .ok (.iconst 0, 1) := by decide +kernel
theorem dX9_meets_90 : decode cX9_meets 90 = .ok (.iaload, 1) := by decide +kernel
theorem dX9_meets_91 : decode cX9_meets 91 = .ok (.aload_n 0, 1) := by decide +kernel
theorem dX9_meets_92 : decode cX9_meets 92 = .ok (.getfield 13, 3) := by decide +kernel
theorem dX9_meets_95 : decode cX9_meets 95 = .ok (.iload_n 2, 1) := by decide +kernel
theorem dX9_meets_96 : decode cX9_meets 96 = .ok (.iconst 2, 1) := by decide +kernel
theorem dX9_meets_97 : decode cX9_meets 97 = .ok (.iadd, 1) := by decide +kernel
theorem dX9_meets_98 : decode cX9_meets 98 = .ok (.iaload, 1) := by decide +kernel
theorem dX9_meets_99 : decode cX9_meets 99 = .ok (.iadd, 1) := by decide +kernel
theorem dX9_meets_100 : decode cX9_meets 100 = .ok (.iload_n 1, 1) := by decide +kernel
theorem dX9_meets_101 : decode cX9_meets 101 = .ok (.invokestatic 159, 3) := by decide +kernel
theorem dX9_meets_104 : decode cX9_meets 104 = .ok (.return_, 1) := by decide +kernel
theorem dX9_looksAt_0 : decode cX9_looksAt 0 = .ok (.aload_n 0, 1) := by decide +kernel
theorem dX9_looksAt_1 : decode cX9_looksAt 1 = .ok (.aload_n 0, 1) := by decide +kernel
theorem dX9_looksAt_2 : decode cX9_looksAt 2 = .ok (.iload_n 1, 1) := by decide +kernel
theorem dX9_looksAt_3 : decode cX9_looksAt 3 = .ok (.iconst 0, 1) := by decide +kernel
theorem dX9_looksAt_4 : decode cX9_looksAt 4 = .ok (.invokevirtual 139, 3) := by decide +kernel
theorem dX9_looksAt_7 : decode cX9_looksAt 7 = .ok (.iconst 1, 1) := by decide +kernel
theorem dX9_looksAt_8 : decode cX9_looksAt 8 = .ok (.invokevirtual 120, 3) := by decide +kernel
theorem dX9_looksAt_11 : decode cX9_looksAt 11 = .ok (.ifCond .le 9, 3) := by decide +kernel
theorem dX9_looksAt_14 : decode cX9_looksAt 14 = .ok (.aload_n 0, 1) := by decide +kernel
theorem dX9_looksAt_15 : decode cX9_looksAt 15 = .ok (.iload_n 1, 1) := by decide +kernel
theorem dX9_looksAt_16 : decode cX9_looksAt 16 = .ok (.invokevirtual 163, 3) := by decide +kernel
theorem dX9_looksAt_19 : decode cX9_looksAt 19 = .ok (.return_, 1) := by decide +kernel
theorem dX9_looksAt_20 : decode cX9_looksAt 20 = .ok (.aload_n 0, 1) := by decide +kernel
theorem dX9_looksAt_21 : decode cX9_looksAt 21 = .ok (.iload_n 1, 1) := by decide +kernel
theorem dX9_looksAt_22 : decode cX9_looksAt 22 = .ok (.iconst 1, 1) := by decide +kernel
theorem dX9_looksAt_23 : decode cX9_looksAt 23 = .ok (.invokevirtual 139, 3) := by decide +kernel
theorem dX9_looksAt_26 : decode cX9_looksAt 26 = .ok (.aload_n 0, 1) := by decide +kernel
theorem dX9_looksAt_27 : decode cX9_looksAt 27 = .ok (.invokevirtual 166, 3) := by decide +kernel
theorem dX9_looksAt_30 : decode cX9_looksAt 30 = .ok (.isub, 1) := by decide +kernel
theorem dX9_looksAt_31 : decode cX9_looksAt 31 = .ok (.istore_n 2, 1) := by decide +kernel
theorem dX9_looksAt_32 : decode cX9_looksAt 32 = .ok (.iload_n 2, 1) := by decide +kernel
theorem dX9_looksAt_33 : decode cX9_looksAt 33 = .ok (.ifCond .le 17, 3) := by decide +kernel
theorem dX9_looksAt_36 : decode cX9_looksAt 36 = .ok (.aload_n 0, 1) := by decide +kernel
theorem dX9_looksAt_37 : decode cX9_looksAt 37 = .ok (.invokevirtual 169, 3) := by decide +kernel
theorem dX9_looksAt_40 : decode cX9_looksAt 40 = .ok (.iload_n 2, 1) := by decide +kernel
theorem dX9_looksAt_41 : decode cX9_looksAt 41 = .ok (.if_icmp .ge 9, 3) := by decide +kernel
theorem dX9_looksAt_44 : decode cX9_looksAt 44 = .ok (.aload_n 0, 1) := by decide +kernel
theorem dX9_looksAt_45 : decode cX9_looksAt 45 = .ok (.iload_n 1, 1) := by decide +kernel
theorem dX9_looksAt_46 : decode cX9_looksAt 46 = .ok (.invokevirtual 163, 3) := by decide +kernel
theorem dX9_looksAt_49 : decode cX9_looksAt 49 = .ok (.return_, 1) := by decide +kernel
theorem dX9_looksAt_50 : decode cX9_looksAt 50 = .ok (.iload_n 2, 1) := by decide +kernel
theorem dX9_looksAt_51 : decode cX9_looksAt 51 = .ok (.ifCond .le 8, 3) := by decide +kernel
theorem dX9_looksAt_54 : decode cX9_looksAt 54 = .ok (.aload_n 0, 1) := by decide +kernel
theorem dX9_looksAt_55 : decode cX9_looksAt 55 = .ok (.iload_n 2, 1) := by decide +kernel
theorem dX9_looksAt_56 : decode cX9_looksAt 56 = .ok (.invokevirtual 172, 3) := by decide +kernel
theorem dX9_looksAt_59 : decode cX9_looksAt 59 = .ok (.aload_n 0, 1) := by decide +kernel
theorem dX9_looksAt_60 : decode cX9_looksAt 60 = .ok (.iload_n 1, 1) := by decide +kernel
theorem dX9_looksAt_61 : decode cX9_looksAt 61 = .ok (.invokevirtual 175, 3) := by decide +kernel
theorem dX9_looksAt_64 : decode cX9_looksAt 64 = .ok (.return_, 1) := by decide +kernel
theorem dX9_hears_0 : decode cX9_hears 0 = .ok (.aload_n 0, 1) := by decide +kernel
theorem dX9_hears_1 : decode cX9_hears 1 = .ok (.invokevirtual 178, 3) := by decide +kernel
theorem dX9_hears_4 : decode cX9_hears 4 = .ok (.aload_n 0, 1) := by decide +kernel
theorem dX9_hears_5 : decode cX9_hears 5 = .ok (.invokevirtual 181, 3) := by decide +kernel
theorem dX9_hears_8 : decode cX9_hears 8 = .ok (.istore_n 1, 1) := by decide +kernel
theorem dX9_hears_9 : decode cX9_hears 9 = .ok (.iconst 0, 1) := by decide +kernel
theorem dX9_hears_10 : decode cX9_hears 10 = .ok (.istore_n 2, 1) := by decide +kernel
theorem dX9_hears_11 : decode cX9_hears 11 = .ok (.iload_n 2, 1) := by decide +kernel
theorem dX9_hears_12 : decode cX9_hears 12 = .ok (.iload_n 1, 1) := by decide +kernel
theorem dX9_hears_13 : decode cX9_hears 13 = .ok (.if_icmp .ge 19, 3) := by decide +kernel
theorem dX9_hears_16 : decode cX9_hears 16 = .ok (.aload_n 0, 1) := by decide +kernel
theorem dX9_hears_17 : decode cX9_hears 17 = .ok (.aload_n 0, 1) := by decide +kernel
theorem dX9_hears_18 : decode cX9_hears 18 = .ok (.getfield 39, 3) := by decide +kernel
theorem dX9_hears_21 : decode cX9_hears 21 = .ok (.iload_n 2, 1) := by decide +kernel
theorem dX9_hears_22 : decode cX9_hears 22 = .ok (.iaload, 1) := by decide +kernel
theorem dX9_hears_23 : decode cX9_hears 23 = .ok (.invokevirtual 184, 3) := by decide +kernel
theorem dX9_hears_26 : decode cX9_hears 26 = .ok (.iinc 2 1, 3) := by decide +kernel
theorem dX9_hears_29 : decode cX9_hears 29 = .ok (.goto (-18), 3) := by decide +kernel
theorem dX9_hears_32 : decode cX9_hears 32 = .ok (.aload_n 0, 1) := by decide +kernel
theorem dX9_hears_33 : decode cX9_hears 33 = .ok (.getfield 13, 3) := by decide +kernel
theorem dX9_hears_36 : decode cX9_hears 36 = .ok (.iconst 3, 1) := by decide +kernel
theorem dX9_hears_37 : decode cX9_hears 37 = .ok (.aload_n 0, 1) := by decide +kernel
theorem dX9_hears_38 : decode cX9_hears 38 = .ok (.getfield 13, 3) := by decide +kernel
theorem dX9_hears_41 : decode cX9_hears 41 = .ok (.iconst 0, 1) := by decide +kernel
theorem dX9_hears_42 : decode cX9_hears 42 = .ok (.iaload, 1) := by decide +kernel
theorem dX9_hears_43 : decode cX9_hears 43 = .ok (.iastore, 1) := by decide +kernel
theorem dX9_hears_44 : decode cX9_hears 44 = .ok (.aload_n 0, 1) := by decide +kernel
theorem dX9_hears_45 : decode cX9_hears 45 = .ok (.getfield 13, 3) := by decide +kernel
theorem dX9_hears_48 : decode cX9_hears 48 = .ok (.iconst 2, 1) := by decide +kernel
theorem dX9_hears_49 : decode cX9_hears 49 = .ok (.aload_n 0, 1) := by decide +kernel
theorem dX9_hears_50 : decode cX9_hears 50 = .ok (.getfield 13, 3) := by decide +kernel
theorem dX9_hears_53 : decode cX9_hears 53 = .ok (.iconst 2, 1) := by decide +kernel
theorem dX9_hears_54 : decode cX9_hears 54 = .ok (.iaload, 1) := by decide +kernel
theorem dX9_hears_55 : decode cX9_hears 55 = .ok (.iconst 1, 1) := by decide +kernel
theorem dX9_hears_56 : decode cX9_hears 56 = .ok (.iadd, 1) := by decide +kernel
theorem dX9_hears_57 : decode cX9_hears 57 = .ok (.iastore, 1) := by decide +kernel
theorem dX9_hears_58 : decode cX9_hears 58 = .ok (.return_, 1) := by decide +kernel
theorem dX9_wordOf_0 : decode cX9_wordOf 0 = .ok (.sipush 1342, 3) := by decide +kernel
theorem dX9_wordOf_3 : decode cX9_wordOf 3 = .ok (.bipush 63, 2) := by decide +kernel
theorem dX9_wordOf_5 : decode cX9_wordOf 5 = .ok (.iload_n 0, 1) := by decide +kernel
theorem dX9_wordOf_6 : decode cX9_wordOf 6 = .ok (.imul, 1) := by decide +kernel
theorem dX9_wordOf_7 : decode cX9_wordOf 7 = .ok (.iadd, 1) := by decide +kernel
theorem dX9_wordOf_8 : decode cX9_wordOf 8 = .ok (.iload_n 1, 1) := by decide +kernel
theorem dX9_wordOf_9 : decode cX9_wordOf 9 = .ok (.bipush 32, 2) := by decide +kernel
theorem dX9_wordOf_11 : decode cX9_wordOf 11 = .ok (.idiv, 1) := by decide +kernel
theorem dX9_wordOf_12 : decode cX9_wordOf 12 = .ok (.iadd, 1) := by decide +kernel
theorem dX9_wordOf_13 : decode cX9_wordOf 13 = .ok (.ireturn, 1) := by decide +kernel
theorem dX9_stands_0 : decode cX9_stands 0 = .ok (.aload_n 0, 1) := by decide +kernel
theorem dX9_stands_1 : decode cX9_stands 1 = .ok (.iload_n 1, 1) := by decide +kernel
theorem dX9_stands_2 : decode cX9_stands 2 = .ok (.iconst 2, 1) := by decide +kernel
theorem dX9_stands_3 : decode cX9_stands 3 = .ok (.aload_n 0, 1) := by decide +kernel
theorem dX9_stands_4 : decode cX9_stands 4 = .ok (.iload_n 1, 1) := by decide +kernel
theorem dX9_stands_5 : decode cX9_stands 5 = .ok (.iconst 2, 1) := by decide +kernel
theorem dX9_stands_6 : decode cX9_stands 6 = .ok (.invokevirtual 120, 3) := by decide +kernel
theorem dX9_stands_9 : decode cX9_stands 9 = .ok (.iconst 1, 1) := by decide +kernel
theorem dX9_stands_10 : decode cX9_stands 10 = .ok (.isub, 1) := by decide +kernel
theorem dX9_stands_11 : decode cX9_stands 11 = .ok (.invokevirtual 129, 3) := by decide +kernel
theorem dX9_stands_14 : decode cX9_stands 14 = .ok (.aload_n 0, 1) := by decide +kernel
theorem dX9_stands_15 : decode cX9_stands 15 = .ok (.iload_n 1, 1) := by decide +kernel
theorem dX9_stands_16 : decode cX9_stands 16 = .ok (.iconst 5, 1) := by decide +kernel
theorem dX9_stands_17 : decode cX9_stands 17 = .ok (.aload_n 0, 1) := by decide +kernel
theorem dX9_stands_18 : decode cX9_stands 18 = .ok (.iload_n 1, 1) := by decide +kernel
theorem dX9_stands_19 : decode cX9_stands 19 = .ok (.iconst 5, 1) := by decide +kernel
theorem dX9_stands_20 : decode cX9_stands 20 = .ok (.invokevirtual 120, 3) := by decide +kernel
theorem dX9_stands_23 : decode cX9_stands 23 = .ok (.iconst 1, 1) := by decide +kernel
theorem dX9_stands_24 : decode cX9_stands 24 = .ok (.iadd, 1) := by decide +kernel
theorem dX9_stands_25 : decode cX9_stands 25 = .ok (.invokevirtual 129, 3) := by decide +kernel
theorem dX9_stands_28 : decode cX9_stands 28 = .ok (.aload_n 0, 1) := by decide +kernel
theorem dX9_stands_29 : decode cX9_stands 29 = .ok (.getfield 13, 3) := by decide +kernel
theorem dX9_stands_32 : decode cX9_stands 32 = .ok (.iload_n 1, 1) := by decide +kernel
theorem dX9_stands_33 : decode cX9_stands 33 = .ok (.iload_n 2, 1) := by decide +kernel
theorem dX9_stands_34 : decode cX9_stands 34 = .ok (.invokestatic 199, 3) := by decide +kernel
theorem dX9_stands_37 : decode cX9_stands 37 = .ok (.aload_n 0, 1) := by decide +kernel
theorem dX9_stands_38 : decode cX9_stands 38 = .ok (.getfield 13, 3) := by decide +kernel
theorem dX9_stands_41 : decode cX9_stands 41 = .ok (.iload_n 1, 1) := by decide +kernel
theorem dX9_stands_42 : decode cX9_stands 42 = .ok (.iload_n 2, 1) := by decide +kernel
theorem dX9_stands_43 : decode cX9_stands 43 = .ok (.invokestatic 199, 3) := by decide +kernel
theorem dX9_stands_46 : decode cX9_stands 46 = .ok (.iaload, 1) := by decide +kernel
theorem dX9_stands_47 : decode cX9_stands 47 = .ok (.iconst 1, 1) := by decide +kernel
theorem dX9_stands_48 : decode cX9_stands 48 = .ok (.iload_n 2, 1) := by decide +kernel
theorem dX9_stands_49 : decode cX9_stands 49 = .ok (.bipush 32, 2) := by decide +kernel
theorem dX9_stands_51 : decode cX9_stands 51 = .ok (.irem, 1) := by decide +kernel
theorem dX9_stands_52 : decode cX9_stands 52 = .ok (.ishl, 1) := by decide +kernel
theorem dX9_stands_53 : decode cX9_stands 53 = .ok (.ior, 1) := by decide +kernel
theorem dX9_stands_54 : decode cX9_stands 54 = .ok (.iastore, 1) := by decide +kernel
theorem dX9_stands_55 : decode cX9_stands 55 = .ok (.return_, 1) := by decide +kernel
theorem dX9_ticks_0 : decode cX9_ticks 0 = .ok (.aload_n 0, 1) := by decide +kernel
theorem dX9_ticks_1 : decode cX9_ticks 1 = .ok (.getfield 13, 3) := by decide +kernel
theorem dX9_ticks_4 : decode cX9_ticks 4 = .ok (.iconst 0, 1) := by decide +kernel
theorem dX9_ticks_5 : decode cX9_ticks 5 = .ok (.iaload, 1) := by decide +kernel
theorem dX9_ticks_6 : decode cX9_ticks 6 = .ok (.iconst 1, 1) := by decide +kernel
theorem dX9_ticks_7 : decode cX9_ticks 7 = .ok (.iadd, 1) := by decide +kernel
theorem dX9_ticks_8 : decode cX9_ticks 8 = .ok (.istore_n 1, 1) := by decide +kernel
theorem dX9_ticks_9 : decode cX9_ticks 9 = .ok (.aload_n 0, 1) := by decide +kernel
theorem dX9_ticks_10 : decode cX9_ticks 10 = .ok (.getfield 13, 3) := by decide +kernel
theorem dX9_ticks_13 : decode cX9_ticks 13 = .ok (.iconst 0, 1) := by decide +kernel
theorem dX9_ticks_14 : decode cX9_ticks 14 = .ok (.iload_n 1, 1) := by decide +kernel
theorem dX9_ticks_15 : decode cX9_ticks 15 = .ok (.iastore, 1) := by decide +kernel
theorem dX9_ticks_16 : decode cX9_ticks 16 = .ok (.iconst 0, 1) := by decide +kernel
theorem dX9_ticks_17 : decode cX9_ticks 17 = .ok (.istore_n 2, 1) := by decide +kernel
theorem dX9_ticks_18 : decode cX9_ticks 18 = .ok (.iload_n 2, 1) := by decide +kernel
theorem dX9_ticks_19 : decode cX9_ticks 19 = .ok (.aload_n 0, 1) := by decide +kernel
theorem dX9_ticks_20 : decode cX9_ticks 20 = .ok (.getfield 89, 3) := by decide +kernel
theorem dX9_ticks_23 : decode cX9_ticks 23 = .ok (.if_icmp .ge 70, 3) := by decide +kernel
theorem dX9_ticks_26 : decode cX9_ticks 26 = .ok (.aload_n 0, 1) := by decide +kernel
theorem dX9_ticks_27 : decode cX9_ticks 27 = .ok (.iload_n 2, 1) := by decide +kernel
theorem dX9_ticks_28 : decode cX9_ticks 28 = .ok (.iconst 2, 1) := by decide +kernel
theorem dX9_ticks_29 : decode cX9_ticks 29 = .ok (.invokevirtual 120, 3) := by decide +kernel
theorem dX9_ticks_32 : decode cX9_ticks 32 = .ok (.ifCond .le 9, 3) := by decide +kernel
theorem dX9_ticks_35 : decode cX9_ticks 35 = .ok (.aload_n 0, 1) := by decide +kernel
theorem dX9_ticks_36 : decode cX9_ticks 36 = .ok (.iload_n 2, 1) := by decide +kernel
theorem dX9_ticks_37 : decode cX9_ticks 37 = .ok (.iload_n 1, 1) := by decide +kernel
theorem dX9_ticks_38 : decode cX9_ticks 38 = .ok (.invokevirtual 187, 3) := by decide +kernel
theorem dX9_ticks_41 : decode cX9_ticks 41 = .ok (.aload_n 0, 1) := by decide +kernel
theorem dX9_ticks_42 : decode cX9_ticks 42 = .ok (.iload_n 2, 1) := by decide +kernel
theorem dX9_ticks_43 : decode cX9_ticks 43 = .ok (.iconst 1, 1) := by decide +kernel
theorem dX9_ticks_44 : decode cX9_ticks 44 = .ok (.invokevirtual 120, 3) := by decide +kernel
theorem dX9_ticks_47 : decode cX9_ticks 47 = .ok (.ifCond .le 17, 3) := by decide +kernel
theorem dX9_ticks_50 : decode cX9_ticks 50 = .ok (.aload_n 0, 1) := by decide +kernel
theorem dX9_ticks_51 : decode cX9_ticks 51 = .ok (.iload_n 2, 1) := by decide +kernel
theorem dX9_ticks_52 : decode cX9_ticks 52 = .ok (.iconst 1, 1) := by decide +kernel
theorem dX9_ticks_53 : decode cX9_ticks 53 = .ok (.aload_n 0, 1) := by decide +kernel
theorem dX9_ticks_54 : decode cX9_ticks 54 = .ok (.iload_n 2, 1) := by decide +kernel
theorem dX9_ticks_55 : decode cX9_ticks 55 = .ok (.iconst 1, 1) := by decide +kernel
theorem dX9_ticks_56 : decode cX9_ticks 56 = .ok (.invokevirtual 120, 3) := by decide +kernel
theorem dX9_ticks_59 : decode cX9_ticks 59 = .ok (.iconst 1, 1) := by decide +kernel
theorem dX9_ticks_60 : decode cX9_ticks 60 = .ok (.isub, 1) := by decide +kernel
theorem dX9_ticks_61 : decode cX9_ticks 61 = .ok (.invokevirtual 129, 3) := by decide +kernel
theorem dX9_ticks_64 : decode cX9_ticks 64 = .ok (.iload_n 1, 1) := by decide +kernel
theorem dX9_ticks_65 : decode cX9_ticks 65 = .ok (.aload_n 0, 1) := by decide +kernel
theorem dX9_ticks_66 : decode cX9_ticks 66 = .ok (.getfield 190, 3) := by decide +kernel
theorem dX9_ticks_69 : decode cX9_ticks 69 = .ok (.irem, 1) := by decide +kernel
theorem dX9_ticks_70 : decode cX9_ticks 70 = .ok (.ifCond .ne 17, 3) := by decide +kernel
theorem dX9_ticks_73 : decode cX9_ticks 73 = .ok (.aload_n 0, 1) := by decide +kernel
theorem dX9_ticks_74 : decode cX9_ticks 74 = .ok (.iload_n 2, 1) := by decide +kernel
theorem dX9_ticks_75 : decode cX9_ticks 75 = .ok (.iconst 0, 1) := by decide +kernel
theorem dX9_ticks_76 : decode cX9_ticks 76 = .ok (.aload_n 0, 1) := by decide +kernel
theorem dX9_ticks_77 : decode cX9_ticks 77 = .ok (.iload_n 2, 1) := by decide +kernel
theorem dX9_ticks_78 : decode cX9_ticks 78 = .ok (.iconst 0, 1) := by decide +kernel
theorem dX9_ticks_79 : decode cX9_ticks 79 = .ok (.invokevirtual 120, 3) := by decide +kernel
theorem dX9_ticks_82 : decode cX9_ticks 82 = .ok (.iconst 2, 1) := by decide +kernel
theorem dX9_ticks_83 : decode cX9_ticks 83 = .ok (.idiv, 1) := by decide +kernel
theorem dX9_ticks_84 : decode cX9_ticks 84 = .ok (.invokevirtual 129, 3) := by decide +kernel
theorem dX9_ticks_87 : decode cX9_ticks 87 = .ok (.iinc 2 1, 3) := by decide +kernel
theorem dX9_ticks_90 : decode cX9_ticks 90 = .ok (.goto (-72), 3) := by decide +kernel
theorem dX9_ticks_93 : decode cX9_ticks 93 = .ok (.iload_n 1, 1) := by decide +kernel
theorem dX9_ticks_94 : decode cX9_ticks 94 = .ok (.aload_n 0, 1) := by decide +kernel
theorem dX9_ticks_95 : decode cX9_ticks 95 = .ok (.getfield 193, 3) := by decide +kernel
theorem dX9_ticks_98 : decode cX9_ticks 98 = .ok (.irem, 1) := by decide +kernel
theorem dX9_ticks_99 : decode cX9_ticks 99 = .ok (.ifCond .ne 7, 3) := by decide +kernel
theorem dX9_ticks_102 : decode cX9_ticks 102 = .ok (.aload_n 0, 1) := by decide +kernel
theorem dX9_ticks_103 : decode cX9_ticks 103 = .ok (.invokevirtual 196, 3) := by decide +kernel
theorem dX9_ticks_106 : decode cX9_ticks 106 = .ok (.return_, 1) := by decide +kernel
theorem dX9_goesOn_0 : decode cX9_goesOn 0 = .ok (.aload_n 0, 1) := by decide +kernel
theorem dX9_goesOn_1 : decode cX9_goesOn 1 = .ok (.getfield 13, 3) := by decide +kernel
theorem dX9_goesOn_4 : decode cX9_goesOn 4 = .ok (.bipush 8, 2) := by decide +kernel
theorem dX9_goesOn_6 : decode cX9_goesOn 6 = .ok (.iaload, 1) := by decide +kernel
theorem dX9_goesOn_7 : decode cX9_goesOn 7 = .ok (.istore_n 2, 1) := by decide +kernel
theorem dX9_goesOn_8 : decode cX9_goesOn 8 = .ok (.iconst 0, 1) := by decide +kernel
theorem dX9_goesOn_9 : decode cX9_goesOn 9 = .ok (.istore_n 3, 1) := by decide +kernel
theorem dX9_goesOn_10 : decode cX9_goesOn 10 = .ok (.iload_n 3, 1) := by decide +kernel
theorem dX9_goesOn_11 : decode cX9_goesOn 11 = .ok (.iload_n 1, 1) := by decide +kernel
theorem dX9_goesOn_12 : decode cX9_goesOn 12 = .ok (.if_icmp .ge 25, 3) := by decide +kernel
theorem dX9_goesOn_15 : decode cX9_goesOn 15 = .ok (.aload_n 0, 1) := by decide +kernel
theorem dX9_goesOn_16 : decode cX9_goesOn 16 = .ok (.getfield 13, 3) := by decide +kernel
theorem dX9_goesOn_19 : decode cX9_goesOn 19 = .ok (.iconst 0, 1) := by decide +kernel
theorem dX9_goesOn_20 : decode cX9_goesOn 20 = .ok (.iaload, 1) := by decide +kernel
theorem dX9_goesOn_21 : decode cX9_goesOn 21 = .ok (.sipush 2000, 3) := by decide +kernel
theorem dX9_goesOn_24 : decode cX9_goesOn 24 = .ok (.if_icmp .ge 13, 3) := by decide +kernel
theorem dX9_goesOn_27 : decode cX9_goesOn 27 = .ok (.aload_n 0, 1) := by decide +kernel
theorem dX9_goesOn_28 : decode cX9_goesOn 28 = .ok (.invokevirtual 202, 3) := by decide +kernel
theorem dX9_goesOn_31 : decode cX9_goesOn 31 = .ok (.iinc 3 1, 3) := by decide +kernel
theorem dX9_goesOn_34 : decode cX9_goesOn 34 = .ok (.goto (-24), 3) := by decide +kernel
theorem dX9_goesOn_37 : decode cX9_goesOn 37 = .ok (.aload_n 0, 1) := by decide +kernel
theorem dX9_goesOn_38 : decode cX9_goesOn 38 = .ok (.getfield 13, 3) := by decide +kernel
theorem dX9_goesOn_41 : decode cX9_goesOn 41 = .ok (.bipush 8, 2) := by decide +kernel
theorem dX9_goesOn_43 : decode cX9_goesOn 43 = .ok (.iaload, 1) := by decide +kernel
theorem dX9_goesOn_44 : decode cX9_goesOn 44 = .ok (.iload_n 2, 1) := by decide +kernel
theorem dX9_goesOn_45 : decode cX9_goesOn 45 = .ok (.isub, 1) := by decide +kernel
theorem dX9_goesOn_46 : decode cX9_goesOn 46 = .ok (.ireturn, 1) := by decide +kernel
theorem dX9_timeOfHearing_0 : decode cX9_timeOfHearing 0 = .ok (.aload_n 0, 1) := by decide +kernel
theorem dX9_timeOfHearing_1 : decode cX9_timeOfHearing 1 = .ok (.getfield 13, 3) := by decide +kernel
theorem dX9_timeOfHearing_4 : decode cX9_timeOfHearing 4 = .ok (.iconst 0, 1) := by decide +kernel
theorem dX9_timeOfHearing_5 : decode cX9_timeOfHearing 5 = .ok (.iaload, 1) := by decide +kernel
theorem dX9_timeOfHearing_6 : decode cX9_timeOfHearing 6 = .ok (.aload_n 0, 1) := by decide +kernel
theorem dX9_timeOfHearing_7 : decode cX9_timeOfHearing 7 = .ok (.getfield 193, 3) := by decide +kernel
theorem dX9_timeOfHearing_10 : decode cX9_timeOfHearing 10 = .ok (.idiv, 1) := by decide +kernel
theorem dX9_timeOfHearing_11 : decode cX9_timeOfHearing 11 = .ok (.iconst 1, 1) := by decide +kernel
theorem dX9_timeOfHearing_12 : decode cX9_timeOfHearing 12 = .ok (.iadd, 1) := by decide +kernel
theorem dX9_timeOfHearing_13 : decode cX9_timeOfHearing 13 = .ok (.aload_n 0, 1) := by decide +kernel
theorem dX9_timeOfHearing_14 : decode cX9_timeOfHearing 14 = .ok (.getfield 193, 3) := by decide +kernel
theorem dX9_timeOfHearing_17 : decode cX9_timeOfHearing 17 = .ok (.imul, 1) := by decide +kernel
theorem dX9_timeOfHearing_18 : decode cX9_timeOfHearing 18 = .ok (.istore_n 1, 1) := by decide +kernel
theorem dX9_timeOfHearing_19 : decode cX9_timeOfHearing 19 = .ok (.iload_n 1, 1) := by decide +kernel
theorem dX9_timeOfHearing_20 : decode cX9_timeOfHearing 20 = .ok (.sipush 2000, 3) := by decide +kernel
theorem dX9_timeOfHearing_23 : decode cX9_timeOfHearing 23 = .ok (.if_icmp .le 7, 3) := by decide +kernel
theorem dX9_timeOfHearing_26 : decode cX9_timeOfHearing 26 = .ok (.iconst (-1), 1) := by decide +kernel
theorem dX9_timeOfHearing_27 : decode cX9_timeOfHearing 27 = .ok (.goto 4, 3) := by decide +kernel
theorem dX9_timeOfHearing_30 : decode cX9_timeOfHearing 30 = .ok (.iload_n 1, 1) := by decide +kernel
theorem dX9_timeOfHearing_31 : decode cX9_timeOfHearing 31 = .ok (.ireturn, 1) := by decide +kernel
theorem dX9_areTicks_0 : decode cX9_areTicks 0 = .ok (.iload_n 0, 1) := by decide +kernel
theorem dX9_areTicks_1 : decode cX9_areTicks 1 = .ok (.i2l, 1) := by decide +kernel
theorem dX9_areTicks_2 : decode cX9_areTicks 2 = .ok (.lconst 1, 1) := by decide +kernel
theorem dX9_areTicks_3 : decode cX9_areTicks 3 = .ok (.ldc2_w 205, 3) := by decide +kernel
theorem dX9_areTicks_6 : decode cX9_areTicks 6 = .ok (.invokestatic 92, 3) := by decide +kernel
theorem dX9_areTicks_9 : decode cX9_areTicks 9 = .ok (.ireturn, 1) := by decide +kernel
def f_X9_thrown (n : Nat) (th_0 : OS) : Option (Int32) :=
  some (th_0.1 0)
set_option maxHeartbeats 4000000 in
set_option maxRecDepth 100000 in
theorem c_X9_thrown (n : Nat) (l : Launch) (k : KT) (a_th : Nat → Nat) (th_0 : OS) (res : (Int32)) (hf : f_X9_thrown n th_0 = some res) : CG l k yX9_thrown cX9_thrown 1 (some .int) 0 0 0 0 [.ref (a_th 0)] (wModel k a_th th_0) (Qi k (fun u : Unit => wModel k a_th th_0) (fun (r : Int32) (u : Unit) => res = r)) := by
  refine CG.ofI (by decide) (Nat.le_of_ble_eq_true rfl) (fun p e s m args below meth c A Q E hnm hW hA hret ls hl => ?_)
  have hl : lv_has ls 1 [(0, .ref (a_th 0))] := hl
  unfold f_X9_thrown at hf
  refine k_aload_n E hl 0 dX9_thrown_0 rfl ?_
  refine gf_X9_67 E hW 0 rfl rfl dX9_thrown_1 ?_
  exact hret _ () _ _ _ _ _ _ hW (Option.some.inj hf).symm rfl (by decide) (by decide) dX9_thrown_4
def f_X9_is (n : Nat) (th_0 : OS) (v1_0 : Int32) : Option (OS × Int32) :=
  if v1_0 = 0 then (
  Let (sI th_0 0 (1 : Int32)) (fun th_1 : OS =>
  gZ v1_0 (some (th_1, v1_0)))) else (
  Let (sI th_0 0 (0 : Int32)) (fun th_2 : OS =>
  gZ v1_0 (some (th_2, v1_0))))
set_option maxHeartbeats 4000000 in
set_option maxRecDepth 100000 in
theorem c_X9_is (n : Nat) (l : Launch) (k : KT) (a_th : Nat → Nat) (th_0 : OS) (v1_0 : Int32) (res : (OS × Int32)) (hf : f_X9_is n th_0 v1_0 = some res) : CG l k yX9_is cX9_is 2 (some .boolean) 0 0 0 0 [.ref (a_th 0), .int v1_0] (wModel k a_th th_0) (Qi k (fun u : OS => wModel k a_th u) (fun (r : Int32) (u : OS) => res = (u, r))) := by
  refine CG.ofI (by decide) (Nat.le_of_ble_eq_true rfl) (fun p e s m args below meth c A Q E hnm hW hA hret ls hl => ?_)
  have hl : lv_has ls 2 [(0, .ref (a_th 0)), (1, .int v1_0)] := hl
  unfold f_X9_is at hf
  refine k_aload_n E hl 0 dX9_is_0 rfl ?_
  refine k_iload_n E hl 1 dX9_is_1 rfl ?_
  refine lv_if_eq (tgt := 9) E.hx E.hb dX9_is_2 (by decide) (fun hc => ?_) (fun hc => ?_)
  · have hf := oT hc hf
    refine lv_iconst (v := (1 : Int32)) E.hx E.hb dX9_is_9 ic_1 ?_
    obtain ⟨th_1, eth_1, hf⟩ := oL hf
    refine pf_X9_67 (ws2 := wModel k a_th th_1) E hW 0 rfl rfl rfl (Nat.le_of_ble_eq_true rfl) dX9_is_10 (by rw [eth_1]; rfl) (fun H locs hW => ?_)
    refine k_iload_n E hl 1 dX9_is_13 rfl ?_
    obtain ⟨hz, hf⟩ := oZ hf
    exact hret _ th_1 _ _ _ _ _ _ hW (Option.some.inj hf).symm hz (by decide) (by decide) dX9_is_14
  · have hf := oF hc hf
    refine lv_iconst (v := (0 : Int32)) E.hx E.hb dX9_is_5 ic_0 ?_
    refine lv_goto (tgt := 10) E.hx E.hb dX9_is_6 (by decide) ?_
    obtain ⟨th_2, eth_2, hf⟩ := oL hf
    refine pf_X9_67 (ws2 := wModel k a_th th_2) E hW 0 rfl rfl rfl (Nat.le_of_ble_eq_true rfl) dX9_is_10 (by rw [eth_2]; rfl) (fun H locs hW => ?_)
    refine k_iload_n E hl 1 dX9_is_13 rfl ?_
    obtain ⟨hz, hf⟩ := oZ hf
    exact hret _ th_2 _ _ _ _ _ _ hW (Option.some.inj hf).symm hz (by decide) (by decide) dX9_is_14
def f_X9_may (n : Nat) (th_0 : OS) (v1_0 : Int32) (v2_0 : Int32) : Option (OS × Int32) :=
  if v1_0 = 0 then (
  Let (sI th_0 0 v2_0) (fun th_1 : OS =>
  gZ v1_0 (some (th_1, v1_0)))) else (
  Let (sI th_0 0 (0 : Int32)) (fun th_2 : OS =>
  gZ v1_0 (some (th_2, v1_0))))
set_option maxHeartbeats 4000000 in
set_option maxRecDepth 100000 in
theorem c_X9_may (n : Nat) (l : Launch) (k : KT) (a_th : Nat → Nat) (th_0 : OS) (v1_0 : Int32) (v2_0 : Int32) (res : (OS × Int32)) (hf : f_X9_may n th_0 v1_0 v2_0 = some res) : CG l k yX9_may cX9_may 3 (some .boolean) 0 0 0 0 [.ref (a_th 0), .int v1_0, .int v2_0] (wModel k a_th th_0) (Qi k (fun u : OS => wModel k a_th u) (fun (r : Int32) (u : OS) => res = (u, r))) := by
  refine CG.ofI (by decide) (Nat.le_of_ble_eq_true rfl) (fun p e s m args below meth c A Q E hnm hW hA hret ls hl => ?_)
  have hl : lv_has ls 3 [(0, .ref (a_th 0)), (1, .int v1_0), (2, .int v2_0)] := hl
  unfold f_X9_may at hf
  refine k_aload_n E hl 0 dX9_may_0 rfl ?_
  refine k_iload_n E hl 1 dX9_may_1 rfl ?_
  refine lv_if_eq (tgt := 9) E.hx E.hb dX9_may_2 (by decide) (fun hc => ?_) (fun hc => ?_)
  · have hf := oT hc hf
    refine k_iload_n E hl 2 dX9_may_9 rfl ?_
    obtain ⟨th_1, eth_1, hf⟩ := oL hf
    refine pf_X9_67 (ws2 := wModel k a_th th_1) E hW 0 rfl rfl rfl (Nat.le_of_ble_eq_true rfl) dX9_may_10 (by rw [eth_1]; rfl) (fun H locs hW => ?_)
    refine k_iload_n E hl 1 dX9_may_13 rfl ?_
    obtain ⟨hz, hf⟩ := oZ hf
    exact hret _ th_1 _ _ _ _ _ _ hW (Option.some.inj hf).symm hz (by decide) (by decide) dX9_may_14
  · have hf := oF hc hf
    refine lv_iconst (v := (0 : Int32)) E.hx E.hb dX9_may_5 ic_0 ?_
    refine lv_goto (tgt := 10) E.hx E.hb dX9_may_6 (by decide) ?_
    obtain ⟨th_2, eth_2, hf⟩ := oL hf
    refine pf_X9_67 (ws2 := wModel k a_th th_2) E hW 0 rfl rfl rfl (Nat.le_of_ble_eq_true rfl) dX9_may_10 (by rw [eth_2]; rfl) (fun H locs hW => ?_)
    refine k_iload_n E hl 1 dX9_may_13 rfl ?_
    obtain ⟨hz, hf⟩ := oZ hf
    exact hret _ th_2 _ _ _ _ _ _ hW (Option.some.inj hf).symm hz (by decide) (by decide) dX9_may_14
def f_X9_isIn (n : Nat) (v0_0 : Int64) (v2_0 : Int64) (v4_0 : Int64) : Option (Int32) :=
  if (lg_cmp v0_0 v2_0) < 0 then (
  some (0 : Int32)) else (
  if 0 < (lg_cmp v0_0 v4_0) then (
  some (0 : Int32)) else (
  some (1 : Int32)))
set_option maxHeartbeats 4000000 in
set_option maxRecDepth 100000 in
theorem c_X9_isIn (n : Nat) (l : Launch) (k : KT)  (v0_0 : Int64) (v2_0 : Int64) (v4_0 : Int64) (res : (Int32)) (hf : f_X9_isIn n v0_0 v2_0 v4_0 = some res) : CG l k yX9_isIn cX9_isIn 6 (some .boolean) 0 0 0 0 [.long v0_0, .long v2_0, .long v4_0] ([]) (Qi k (fun u : Unit => []) (fun (r : Int32) (u : Unit) => res = r)) := by
  refine CG.ofI (by decide) (Nat.le_of_ble_eq_true rfl) (fun p e s m args below meth c A Q E hnm hW hA hret ls hl => ?_)
  have hl : lv_has ls 6 [(0, .long v0_0), (2, .long v2_0), (4, .long v4_0)] := hl
  unfold f_X9_isIn at hf
  refine k_lload_n E hl 0 dX9_isIn_0 rfl ?_
  refine k_lload_n E hl 1 dX9_isIn_1 rfl ?_
  refine W.lcmp E.hx E.hb dX9_isIn_2 ?_
  refine lv_if_lt (tgt := 17) E.hx E.hb dX9_isIn_3 (by decide) (fun hc => ?_) (fun hc => ?_)
  · have hf := oT hc hf
    refine lv_iconst (v := (0 : Int32)) E.hx E.hb dX9_isIn_17 ic_0 ?_
    exact hret _ () _ _ _ _ _ _ hW (Option.some.inj hf).symm (by decide) (by decide) (by decide) dX9_isIn_18
  · have hf := oF hc hf
    refine k_lload_n E hl 0 dX9_isIn_6 rfl ?_
    refine k_lload E hl 2 dX9_isIn_7 rfl ?_
    refine W.lcmp E.hx E.hb dX9_isIn_9 ?_
    refine lv_if_gt (tgt := 17) E.hx E.hb dX9_isIn_10 (by decide) (fun hc => ?_) (fun hc => ?_)
    · have hf := oT hc hf
      refine lv_iconst (v := (0 : Int32)) E.hx E.hb dX9_isIn_17 ic_0 ?_
      exact hret _ () _ _ _ _ _ _ hW (Option.some.inj hf).symm (by decide) (by decide) (by decide) dX9_isIn_18
    · have hf := oF hc hf
      refine lv_iconst (v := (1 : Int32)) E.hx E.hb dX9_isIn_13 ic_1 ?_
      refine lv_goto (tgt := 18) E.hx E.hb dX9_isIn_14 (by decide) ?_
      exact hret _ () _ _ _ _ _ _ hW (Option.some.inj hf).symm (by decide) (by decide) (by decide) dX9_isIn_18
def f_X9_lesser (n : Nat) (v0_0 : Int32) (v1_0 : Int32) : Option (Int32) :=
  if v1_0 ≤ v0_0 then (
  some v1_0) else (
  some v0_0)
set_option maxHeartbeats 4000000 in
set_option maxRecDepth 100000 in
theorem c_X9_lesser (n : Nat) (l : Launch) (k : KT)  (v0_0 : Int32) (v1_0 : Int32) (res : (Int32)) (hf : f_X9_lesser n v0_0 v1_0 = some res) : CG l k yX9_lesser cX9_lesser 2 (some .int) 0 0 0 0 [.int v0_0, .int v1_0] ([]) (Qi k (fun u : Unit => []) (fun (r : Int32) (u : Unit) => res = r)) := by
  refine CG.ofI (by decide) (Nat.le_of_ble_eq_true rfl) (fun p e s m args below meth c A Q E hnm hW hA hret ls hl => ?_)
  have hl : lv_has ls 2 [(0, .int v0_0), (1, .int v1_0)] := hl
  unfold f_X9_lesser at hf
  refine k_iload_n E hl 0 dX9_lesser_0 rfl ?_
  refine k_iload_n E hl 1 dX9_lesser_1 rfl ?_
  refine lv_icmp_ge (tgt := 9) E.hx E.hb dX9_lesser_2 (by decide) (fun hc => ?_) (fun hc => ?_)
  · have hf := oT hc hf
    refine k_iload_n E hl 1 dX9_lesser_9 rfl ?_
    exact hret _ () _ _ _ _ _ _ hW (Option.some.inj hf).symm rfl (by decide) (by decide) dX9_lesser_10
  · have hf := oF hc hf
    refine k_iload_n E hl 0 dX9_lesser_5 rfl ?_
    refine lv_goto (tgt := 10) E.hx E.hb dX9_lesser_6 (by decide) ?_
    exact hret _ () _ _ _ _ _ _ hW (Option.some.inj hf).symm rfl (by decide) (by decide) dX9_lesser_10
def f_X9_greater (n : Nat) (v0_0 : Int32) (v1_0 : Int32) : Option (Int32) :=
  if v0_0 ≤ v1_0 then (
  some v1_0) else (
  some v0_0)
set_option maxHeartbeats 4000000 in
set_option maxRecDepth 100000 in
theorem c_X9_greater (n : Nat) (l : Launch) (k : KT)  (v0_0 : Int32) (v1_0 : Int32) (res : (Int32)) (hf : f_X9_greater n v0_0 v1_0 = some res) : CG l k yX9_greater cX9_greater 2 (some .int) 0 0 0 0 [.int v0_0, .int v1_0] ([]) (Qi k (fun u : Unit => []) (fun (r : Int32) (u : Unit) => res = r)) := by
  refine CG.ofI (by decide) (Nat.le_of_ble_eq_true rfl) (fun p e s m args below meth c A Q E hnm hW hA hret ls hl => ?_)
  have hl : lv_has ls 2 [(0, .int v0_0), (1, .int v1_0)] := hl
  unfold f_X9_greater at hf
  refine k_iload_n E hl 0 dX9_greater_0 rfl ?_
  refine k_iload_n E hl 1 dX9_greater_1 rfl ?_
  refine lv_icmp_le (tgt := 9) E.hx E.hb dX9_greater_2 (by decide) (fun hc => ?_) (fun hc => ?_)
  · have hf := oT hc hf
    refine k_iload_n E hl 1 dX9_greater_9 rfl ?_
    exact hret _ () _ _ _ _ _ _ hW (Option.some.inj hf).symm rfl (by decide) (by decide) dX9_greater_10
  · have hf := oF hc hf
    refine k_iload_n E hl 0 dX9_greater_5 rfl ?_
    refine lv_goto (tgt := 10) E.hx E.hb dX9_greater_6 (by decide) ?_
    exact hret _ () _ _ _ _ _ _ hW (Option.some.inj hf).symm rfl (by decide) (by decide) dX9_greater_10
def f_X9_upwards (n : Nat) (v0_0 : Int32) (v1_0 : Int32) : Option (Int32) :=
  oN (v1_0 = 0) (
  some (((v0_0 + v1_0) - (1 : Int32)) / v1_0))
set_option maxHeartbeats 4000000 in
set_option maxRecDepth 100000 in
theorem c_X9_upwards (n : Nat) (l : Launch) (k : KT)  (v0_0 : Int32) (v1_0 : Int32) (res : (Int32)) (hf : f_X9_upwards n v0_0 v1_0 = some res) : CG l k yX9_upwards cX9_upwards 2 (some .int) 0 0 0 0 [.int v0_0, .int v1_0] ([]) (Qi k (fun u : Unit => []) (fun (r : Int32) (u : Unit) => res = r)) := by
  refine CG.ofI (by decide) (Nat.le_of_ble_eq_true rfl) (fun p e s m args below meth c A Q E hnm hW hA hret ls hl => ?_)
  have hl : lv_has ls 2 [(0, .int v0_0), (1, .int v1_0)] := hl
  unfold f_X9_upwards at hf
  refine k_iload_n E hl 0 dX9_upwards_0 rfl ?_
  refine k_iload_n E hl 1 dX9_upwards_1 rfl ?_
  refine lv_iadd E.hx E.hb dX9_upwards_2 ?_
  refine lv_iconst (v := (1 : Int32)) E.hx E.hb dX9_upwards_3 ic_1 ?_
  refine lv_isub E.hx E.hb dX9_upwards_4 ?_
  refine k_iload_n E hl 1 dX9_upwards_5 rfl ?_
  obtain ⟨hz, hf⟩ := oG hf
  refine lv_idiv E.hx E.hb dX9_upwards_6 hz ?_
  exact hret _ () _ _ _ _ _ _ hW (Option.some.inj hf).symm rfl (by decide) (by decide) dX9_upwards_7
def s_X9_copies_2 (n : Nat) (z_p0 : Nat) (z_p1 : Nat) (p0_0 : Nat → Int32) (rc_2 : (Nat → Int32) → (Int32) → Option ((Nat → Int32))) (p1_j2 : Nat → Int32) (w2_j2 : Int32) : Option ((Nat → Int32)) :=
  if (1846 : Int32) ≤ w2_j2 then (
  some p1_j2) else (
  gI z_p0 w2_j2 (Let (p0_0 w2_j2.toNatClampNeg) (fun x_1 : Int32 =>
  gI z_p1 w2_j2 (Let (upd p1_j2 w2_j2.toNatClampNeg x_1) (fun p1_2 : Nat → Int32 =>
  Let (w2_j2 + (1 : Int32)) (fun v2_3 : Int32 =>
  rc_2 p1_2 v2_3))))))
def l_X9_copies_2 (n : Nat) (z_p0 : Nat) (z_p1 : Nat) (p0_0 : Nat → Int32) : Nat → (Nat → Int32) → (Int32) → Option ((Nat → Int32))
  | 0 => fun _ _ => none
  | N + 1 => s_X9_copies_2 n z_p0 z_p1 p0_0 (l_X9_copies_2 n z_p0 z_p1 p0_0 N)
def f_X9_copies (n : Nat) (z_p0 : Nat) (p0_0 : Nat → Int32) (z_p1 : Nat) (p1_0 : Nat → Int32) : Option ((Nat → Int32)) :=
  l_X9_copies_2 n z_p0 z_p1 p0_0 n p1_0 (0 : Int32)
set_option maxHeartbeats 4000000 in
set_option maxRecDepth 100000 in
theorem c_X9_copies (n : Nat) (l : Launch) (k : KT) (a_p0 : Nat → Nat) (a_p1 : Nat → Nat) (z_p0 : Nat) (p0_0 : Nat → Int32) (z_p1 : Nat) (p1_0 : Nat → Int32) (res : ((Nat → Int32))) (hf : f_X9_copies n z_p0 p0_0 z_p1 p1_0 = some res) : CG l k yX9_copies cX9_copies 3 none 0 0 0 0 [.ref (a_p0 0), .ref (a_p1 0)] (wIArr k a_p0 z_p0 p0_0 ++ wIArr k a_p1 z_p1 p1_0) (Qv k (fun u : Nat → Int32 => wIArr k a_p0 z_p0 p0_0 ++ wIArr k a_p1 z_p1 u) (fun u : Nat → Int32 => res = u)) := by
  refine CG.ofV (by decide) (Nat.le_of_ble_eq_true rfl) (fun p e s m args below meth c A Q E hnm hW hA hret ls hl => ?_)
  have hl : lv_has ls 3 [(0, .ref (a_p0 0)), (1, .ref (a_p1 0))] := hl
  unfold f_X9_copies at hf
  refine lv_iconst (v := (0 : Int32)) E.hx E.hb dX9_copies_0 ic_0 ?_
  refine k_istore_n (lv' := [(2, .int (0 : Int32)), (0, .ref (a_p0 0)), (1, .ref (a_p1 0))]) E rfl hl dX9_copies_1 rfl (by decide) rfl (fun ls hl => ?_)
  have L_2 : ∀ (N_2 : Nat) (p1_j2 : Nat → Int32) (w2_j2 : Int32) (H : Heap) (locs : List Loc) (ls : Array Slot) (hW : WD k A s.heap (wIArr k a_p0 z_p0 p0_0 ++ wIArr k a_p1 z_p1 p1_j2) H locs) (hl : lv_has ls 3 [(0, .ref (a_p0 0)), (1, .ref (a_p1 0)), (2, .int w2_j2)]) (hf : l_X9_copies_2 n z_p0 z_p1 p0_0 N_2 p1_j2 w2_j2 = some res), W p l e { frames := 0, cells := 0, slots := 0, locals := 0 } s m args below meth c H locs 0 0 Q (F0 m 2 ls []) := by
    intro N_2
    induction N_2 with
    | zero => intro p1_j2 w2_j2 H locs ls hW hl hf; exact o0 hf
    | succ N_2 ih_2 =>
      intro p1_j2 w2_j2 H locs ls hW hl hf
      have hf : s_X9_copies_2 n z_p0 z_p1 p0_0 (l_X9_copies_2 n z_p0 z_p1 p0_0 N_2) p1_j2 w2_j2 = some res := hf
      unfold s_X9_copies_2 at hf
      refine k_iload_n E hl 2 dX9_copies_2 rfl ?_
      refine lv_sipush (v := (1846 : Int32)) E.hx E.hb dX9_copies_3 sp_1846 ?_
      refine lv_icmp_ge (tgt := 21) E.hx E.hb dX9_copies_6 (by decide) (fun hc => ?_) (fun hc => ?_)
      · have hf := oT hc hf
        exact hret p1_j2 _ _ _ _ _ _ hW (Option.some.inj hf).symm (by decide) (by decide) dX9_copies_21
      · have hf := oF hc hf
        refine k_aload_n E hl 1 dX9_copies_9 rfl ?_
        refine k_iload_n E hl 2 dX9_copies_10 rfl ?_
        refine k_aload_n E hl 0 dX9_copies_11 rfl ?_
        refine k_iload_n E hl 2 dX9_copies_12 rfl ?_
        obtain ⟨hin, hf⟩ := oI hf
        obtain ⟨x_1, ex_1, hf⟩ := oL hf
        refine k_iald E hW 0 rfl hin dX9_copies_13 ?_
        refine k_topi ex_1 ?_
        obtain ⟨hin, hf⟩ := oI hf
        obtain ⟨p1_2, ep1_2, hf⟩ := oL hf
        refine k_iast (ws2 := wIArr k a_p0 z_p0 p0_0 ++ wIArr k a_p1 z_p1 p1_2) E hW 1 rfl hin dX9_copies_14 (by rw [ep1_2]; rfl) (fun H locs hW => ?_)
        obtain ⟨v2_3, ev2_3, hf⟩ := oL hf
        refine k_iinc (lv' := [(2, .int v2_3), (0, .ref (a_p0 0)), (1, .ref (a_p1 0))]) E hl 2 dX9_copies_15 rfl (ev2_3.trans (congrArg (fun z => w2_j2 + z) ic_1.symm)) (by decide) rfl (fun ls hl => ?_)
        refine lv_goto (tgt := 2) E.hx E.hb dX9_copies_18 (by decide) ?_
        exact ih_2 p1_2 v2_3 _ _ _ hW (lv_sub hl [1, 2, 0] rfl) hf
  exact L_2 n p1_0 (0 : Int32) _ _ _ hW (lv_sub hl [1, 2, 0] rfl) hf
def f_X9_starts (n : Nat) (th_0 : OS) : Option (OS) :=
  bnd (f_X9_copies n 1846 (th_0.2.1 9) 1846 (th_0.2.1 11)) (fun (y_1 : Nat → Int32) =>
  Let (sA th_0 11 y_1) (fun th_2 : OS =>
  some th_2))
set_option maxHeartbeats 4000000 in
set_option maxRecDepth 100000 in
theorem c_X9_starts (n : Nat) (l : Launch) (k : KT) (a_th : Nat → Nat) (th_0 : OS) (res : (OS)) (hf : f_X9_starts n th_0 = some res) : CG l k yX9_starts cX9_starts 1 none 1 0 0 22 [.ref (a_th 0)] (wModel k a_th th_0) (Qv k (fun u : OS => wModel k a_th u) (fun u : OS => res = u)) := by
  refine CG.ofV (by decide) (Nat.le_of_ble_eq_true rfl) (fun p e s m args below meth c A Q E hnm hW hA hret ls hl => ?_)
  have hl : lv_has ls 1 [(0, .ref (a_th 0))] := hl
  unfold f_X9_starts at hf
  refine k_aload_n E hl 0 dX9_starts_0 rfl ?_
  refine gf_X9_13 E hW 0 rfl rfl dX9_starts_1 ?_
  refine k_aload_n E hl 0 dX9_starts_4 rfl ?_
  refine gf_X9_20 E hW 0 rfl rfl dX9_starts_5 ?_
  obtain ⟨y_1, hg, hf⟩ := ob hf
  obtain ⟨th_2, eth_2, hf⟩ := oL hf
  refine k_callSv (As := [.ref (a_th 2), .ref (a_th 4)]) (rest := []) (ws2 := fun u => wModel k a_th (sA th_0 11 (u))) (c_X9_copies n l k (fun j => a_th (2 + j)) (fun j => a_th (4 + j)) 1846 (th_0.2.1 9) 1846 (th_0.2.1 11) y_1 hg) E sl_X9_70 dX9_starts_8 rfl [2, 4] hW hA hl rfl rfl ⟨by decide, by decide⟩ ⟨by decide, by decide⟩ (Nat.le_of_ble_eq_true rfl) rfl (fun _ => rfl) (fun _ => rfl) (fun u H locs hp hW => ?_)
  cases hp
  have hW : WD k A s.heap (wModel k a_th th_2) H locs := by rw [eth_2]; exact hW
  exact hret th_2 _ _ _ _ _ _ hW (Option.some.inj hf).symm (by decide) (by decide) dX9_starts_11
def s_X9_done_52 (n : Nat) (w1_j52 : Int32) (rc_52 : (OS) → (Int32) → Option (OS × Int32)) (th_j52 : OS) (w2_j52 : Int32) : Option (OS × Int32) :=
  if (1846 : Int32) ≤ w2_j52 then (
  Let (sI th_j52 15 ((th_j52.1 15) + (1 : Int32))) (fun th_1 : OS =>
  some (th_1, w1_j52))) else (
  gI 1846 w2_j52 (Let ((th_j52.2.1 11) w2_j52.toNatClampNeg) (fun x_2 : Int32 =>
  gI 14768 (((1846 : Int32) * (th_j52.1 15)) + w2_j52) (Let (sA th_j52 14 (upd (th_j52.2.1 14) (((1846 : Int32) * (th_j52.1 15)) + w2_j52).toNatClampNeg x_2)) (fun th_3 : OS =>
  Let (w2_j52 + (1 : Int32)) (fun v2_4 : Int32 =>
  rc_52 th_3 v2_4))))))
def l_X9_done_52 (n : Nat) (w1_j52 : Int32) : Nat → (OS) → (Int32) → Option (OS × Int32)
  | 0 => fun _ _ => none
  | N + 1 => s_X9_done_52 n w1_j52 (l_X9_done_52 n w1_j52 N)
def j_X9_done_50 (n : Nat) (v1_0 : Int32) (th_j50 : OS) : Option (OS × Int32) :=
  l_X9_done_52 n v1_0 n th_j50 (0 : Int32)
def s_X9_done_11 (n : Nat) (w1_j11 : Int32) (rc_11 : (OS) → (Int32) → Option (OS × Int32)) (th_j11 : OS) (w2_j11 : Int32) : Option (OS × Int32) :=
  if (12922 : Int32) ≤ w2_j11 then (
  Let (sI th_j11 15 ((th_j11.1 15) - (1 : Int32))) (fun th_5 : OS =>
  j_X9_done_50 n w1_j11 th_5)) else (
  gI 14768 (w2_j11 + (1846 : Int32)) (Let ((th_j11.2.1 14) (w2_j11 + (1846 : Int32)).toNatClampNeg) (fun x_6 : Int32 =>
  gI 14768 w2_j11 (Let (sA th_j11 14 (upd (th_j11.2.1 14) w2_j11.toNatClampNeg x_6)) (fun th_7 : OS =>
  Let (w2_j11 + (1 : Int32)) (fun v2_8 : Int32 =>
  rc_11 th_7 v2_8))))))
def l_X9_done_11 (n : Nat) (w1_j11 : Int32) : Nat → (OS) → (Int32) → Option (OS × Int32)
  | 0 => fun _ _ => none
  | N + 1 => s_X9_done_11 n w1_j11 (l_X9_done_11 n w1_j11 N)
def f_X9_done (n : Nat) (th_0 : OS) (v1_0 : Int32) : Option (OS × Int32) :=
  if (th_0.1 15) = (8 : Int32) then (
  l_X9_done_11 n v1_0 n th_0 (0 : Int32)) else (
  j_X9_done_50 n v1_0 th_0)
set_option maxHeartbeats 4000000 in
set_option maxRecDepth 100000 in
theorem c_X9_done (n : Nat) (l : Launch) (k : KT) (a_th : Nat → Nat) (th_0 : OS) (v1_0 : Int32) (res : (OS × Int32)) (hf : f_X9_done n th_0 v1_0 = some res) : CG l k yX9_done cX9_done 3 (some .int) 0 0 0 0 [.ref (a_th 0), .int v1_0] (wModel k a_th th_0) (Qi k (fun u : OS => wModel k a_th u) (fun (r : Int32) (u : OS) => res = (u, r))) := by
  refine CG.ofI (by decide) (Nat.le_of_ble_eq_true rfl) (fun p e s m args below meth c A Q E hnm hW hA hret ls hl => ?_)
  have hl : lv_has ls 3 [(0, .ref (a_th 0)), (1, .int v1_0)] := hl
  unfold f_X9_done at hf
  refine k_aload_n E hl 0 dX9_done_0 rfl ?_
  refine gf_X9_74 E hW 0 rfl rfl dX9_done_1 ?_
  refine lv_bipush (v := (8 : Int32)) E.hx E.hb dX9_done_4 bp_8 ?_
  have J_50 : ∀ (th_j50 : OS) (H : Heap) (locs : List Loc) (ls : Array Slot) (hW : WD k A s.heap (wModel k a_th th_j50) H locs) (hl : lv_has ls 3 [(0, .ref (a_th 0)), (1, .int v1_0)]) (hf : j_X9_done_50 n v1_0 th_j50 = some res), W p l e { frames := 0, cells := 0, slots := 0, locals := 0 } s m args below meth c H locs 0 0 Q (F0 m 50 ls []) := by
    intro th_j50 H locs ls hW hl hf
    unfold j_X9_done_50 at hf
    refine lv_iconst (v := (0 : Int32)) E.hx E.hb dX9_done_50 ic_0 ?_
    refine k_istore_n (lv' := [(2, .int (0 : Int32)), (0, .ref (a_th 0)), (1, .int v1_0)]) E rfl hl dX9_done_51 rfl (by decide) rfl (fun ls hl => ?_)
    have L_52 : ∀ (N_52 : Nat) (th_j52 : OS) (w2_j52 : Int32) (H : Heap) (locs : List Loc) (ls : Array Slot) (hW : WD k A s.heap (wModel k a_th th_j52) H locs) (hl : lv_has ls 3 [(0, .ref (a_th 0)), (1, .int v1_0), (2, .int w2_j52)]) (hf : l_X9_done_52 n v1_0 N_52 th_j52 w2_j52 = some res), W p l e { frames := 0, cells := 0, slots := 0, locals := 0 } s m args below meth c H locs 0 0 Q (F0 m 52 ls []) := by
      intro N_52
      induction N_52 with
      | zero => intro th_j52 w2_j52 H locs ls hW hl hf; exact o0 hf
      | succ N_52 ih_52 =>
        intro th_j52 w2_j52 H locs ls hW hl hf
        have hf : s_X9_done_52 n v1_0 (l_X9_done_52 n v1_0 N_52) th_j52 w2_j52 = some res := hf
        unfold s_X9_done_52 at hf
        refine k_iload_n E hl 2 dX9_done_52 rfl ?_
        refine lv_sipush (v := (1846 : Int32)) E.hx E.hb dX9_done_53 sp_1846 ?_
        refine lv_icmp_ge (tgt := 86) E.hx E.hb dX9_done_56 (by decide) (fun hc => ?_) (fun hc => ?_)
        · have hf := oT hc hf
          refine k_aload_n E hl 0 dX9_done_86 rfl ?_
          refine k_aload_n E hl 0 dX9_done_87 rfl ?_
          refine gf_X9_74 E hW 0 rfl rfl dX9_done_88 ?_
          refine lv_iconst (v := (1 : Int32)) E.hx E.hb dX9_done_91 ic_1 ?_
          refine lv_iadd E.hx E.hb dX9_done_92 ?_
          obtain ⟨th_1, eth_1, hf⟩ := oL hf
          refine pf_X9_74 (ws2 := wModel k a_th th_1) E hW 0 rfl rfl rfl (Nat.le_of_ble_eq_true rfl) dX9_done_93 (by rw [eth_1]; rfl) (fun H locs hW => ?_)
          refine k_iload_n E hl 1 dX9_done_96 rfl ?_
          exact hret _ th_1 _ _ _ _ _ _ hW (Option.some.inj hf).symm rfl (by decide) (by decide) dX9_done_97
        · have hf := oF hc hf
          refine k_aload_n E hl 0 dX9_done_59 rfl ?_
          refine gf_X9_29 E hW 0 rfl rfl dX9_done_60 ?_
          refine lv_sipush (v := (1846 : Int32)) E.hx E.hb dX9_done_63 sp_1846 ?_
          refine k_aload_n E hl 0 dX9_done_66 rfl ?_
          refine gf_X9_74 E hW 0 rfl rfl dX9_done_67 ?_
          refine lv_imul E.hx E.hb dX9_done_70 ?_
          refine k_iload_n E hl 2 dX9_done_71 rfl ?_
          refine lv_iadd E.hx E.hb dX9_done_72 ?_
          refine k_aload_n E hl 0 dX9_done_73 rfl ?_
          refine gf_X9_20 E hW 0 rfl rfl dX9_done_74 ?_
          refine k_iload_n E hl 2 dX9_done_77 rfl ?_
          obtain ⟨hin, hf⟩ := oI hf
          obtain ⟨x_2, ex_2, hf⟩ := oL hf
          refine k_iald E hW 4 rfl hin dX9_done_78 ?_
          refine k_topi ex_2 ?_
          obtain ⟨hin, hf⟩ := oI hf
          obtain ⟨th_3, eth_3, hf⟩ := oL hf
          refine k_iast (ws2 := wModel k a_th th_3) E hW 7 rfl hin dX9_done_79 (by rw [eth_3]; rfl) (fun H locs hW => ?_)
          obtain ⟨v2_4, ev2_4, hf⟩ := oL hf
          refine k_iinc (lv' := [(2, .int v2_4), (0, .ref (a_th 0)), (1, .int v1_0)]) E hl 2 dX9_done_80 rfl (ev2_4.trans (congrArg (fun z => w2_j52 + z) ic_1.symm)) (by decide) rfl (fun ls hl => ?_)
          refine lv_goto (tgt := 52) E.hx E.hb dX9_done_83 (by decide) ?_
          exact ih_52 th_3 v2_4 _ _ _ hW (lv_sub hl [1, 2, 0] rfl) hf
    exact L_52 n th_j50 (0 : Int32) _ _ _ hW (lv_sub hl [1, 2, 0] rfl) hf
  refine lv_icmp_ne (tgt := 50) E.hx E.hb dX9_done_6 (by decide) (fun hc => ?_) (fun hc => ?_)
  · have hf := oF hc hf
    exact J_50 th_0 _ _ _ hW (lv_sub hl [0, 1] rfl) hf
  · have hf := oT hc hf
    refine lv_iconst (v := (0 : Int32)) E.hx E.hb dX9_done_9 ic_0 ?_
    refine k_istore_n (lv' := [(2, .int (0 : Int32)), (0, .ref (a_th 0)), (1, .int v1_0)]) E rfl hl dX9_done_10 rfl (by decide) rfl (fun ls hl => ?_)
    have L_11 : ∀ (N_11 : Nat) (th_j11 : OS) (w2_j11 : Int32) (H : Heap) (locs : List Loc) (ls : Array Slot) (hW : WD k A s.heap (wModel k a_th th_j11) H locs) (hl : lv_has ls 3 [(0, .ref (a_th 0)), (1, .int v1_0), (2, .int w2_j11)]) (hf : l_X9_done_11 n v1_0 N_11 th_j11 w2_j11 = some res), W p l e { frames := 0, cells := 0, slots := 0, locals := 0 } s m args below meth c H locs 0 0 Q (F0 m 11 ls []) := by
      intro N_11
      induction N_11 with
      | zero => intro th_j11 w2_j11 H locs ls hW hl hf; exact o0 hf
      | succ N_11 ih_11 =>
        intro th_j11 w2_j11 H locs ls hW hl hf
        have hf : s_X9_done_11 n v1_0 (l_X9_done_11 n v1_0 N_11) th_j11 w2_j11 = some res := hf
        unfold s_X9_done_11 at hf
        refine k_iload_n E hl 2 dX9_done_11 rfl ?_
        refine lv_sipush (v := (12922 : Int32)) E.hx E.hb dX9_done_12 sp_12922 ?_
        refine lv_icmp_ge (tgt := 40) E.hx E.hb dX9_done_15 (by decide) (fun hc => ?_) (fun hc => ?_)
        · have hf := oT hc hf
          refine k_aload_n E hl 0 dX9_done_40 rfl ?_
          refine k_aload_n E hl 0 dX9_done_41 rfl ?_
          refine gf_X9_74 E hW 0 rfl rfl dX9_done_42 ?_
          refine lv_iconst (v := (1 : Int32)) E.hx E.hb dX9_done_45 ic_1 ?_
          refine lv_isub E.hx E.hb dX9_done_46 ?_
          obtain ⟨th_5, eth_5, hf⟩ := oL hf
          refine pf_X9_74 (ws2 := wModel k a_th th_5) E hW 0 rfl rfl rfl (Nat.le_of_ble_eq_true rfl) dX9_done_47 (by rw [eth_5]; rfl) (fun H locs hW => ?_)
          exact J_50 th_5 _ _ _ hW (lv_sub hl [0, 1] rfl) hf
        · have hf := oF hc hf
          refine k_aload_n E hl 0 dX9_done_18 rfl ?_
          refine gf_X9_29 E hW 0 rfl rfl dX9_done_19 ?_
          refine k_iload_n E hl 2 dX9_done_22 rfl ?_
          refine k_aload_n E hl 0 dX9_done_23 rfl ?_
          refine gf_X9_29 E hW 0 rfl rfl dX9_done_24 ?_
          refine k_iload_n E hl 2 dX9_done_27 rfl ?_
          refine lv_sipush (v := (1846 : Int32)) E.hx E.hb dX9_done_28 sp_1846 ?_
          refine lv_iadd E.hx E.hb dX9_done_31 ?_
          obtain ⟨hin, hf⟩ := oI hf
          obtain ⟨x_6, ex_6, hf⟩ := oL hf
          refine k_iald E hW 7 rfl hin dX9_done_32 ?_
          refine k_topi ex_6 ?_
          obtain ⟨hin, hf⟩ := oI hf
          obtain ⟨th_7, eth_7, hf⟩ := oL hf
          refine k_iast (ws2 := wModel k a_th th_7) E hW 7 rfl hin dX9_done_33 (by rw [eth_7]; rfl) (fun H locs hW => ?_)
          obtain ⟨v2_8, ev2_8, hf⟩ := oL hf
          refine k_iinc (lv' := [(2, .int v2_8), (0, .ref (a_th 0)), (1, .int v1_0)]) E hl 2 dX9_done_34 rfl (ev2_8.trans (congrArg (fun z => w2_j11 + z) ic_1.symm)) (by decide) rfl (fun ls hl => ?_)
          refine lv_goto (tgt := 11) E.hx E.hb dX9_done_37 (by decide) ?_
          exact ih_11 th_7 v2_8 _ _ _ hW (lv_sub hl [1, 2, 0] rfl) hf
    exact L_11 n th_0 (0 : Int32) _ _ _ hW (lv_sub hl [1, 2, 0] rfl) hf
def s_X9_undo_33 (n : Nat) (rc_33 : (OS) → (Int32) → Option (OS × Int32)) (th_j33 : OS) (w1_j33 : Int32) : Option (OS × Int32) :=
  if (1846 : Int32) ≤ w1_j33 then (
  some (th_j33, (th_j33.1 15))) else (
  gI 14768 (((1846 : Int32) * (th_j33.1 15)) + w1_j33) (Let ((th_j33.2.1 14) (((1846 : Int32) * (th_j33.1 15)) + w1_j33).toNatClampNeg) (fun x_4 : Int32 =>
  gI 1846 w1_j33 (Let (sA th_j33 9 (upd (th_j33.2.1 9) w1_j33.toNatClampNeg x_4)) (fun th_5 : OS =>
  Let (w1_j33 + (1 : Int32)) (fun v1_6 : Int32 =>
  rc_33 th_5 v1_6))))))
def l_X9_undo_33 (n : Nat) : Nat → (OS) → (Int32) → Option (OS × Int32)
  | 0 => fun _ _ => none
  | N + 1 => s_X9_undo_33 n (l_X9_undo_33 n N)
def j_X9_undo_13 (n : Nat) (th_j13 : OS) (s1_j13 : Int32) : Option (OS × Int32) :=
  bnd2 (f_X9_is n th_j13 s1_j13) (fun (th_1 : OS) (r_2 : Int32) =>
  if r_2 = 0 then (
  some (th_1, (0 : Int32))) else (
  Let (sI th_1 15 ((th_1.1 15) - (1 : Int32))) (fun th_3 : OS =>
  l_X9_undo_33 n n th_3 (0 : Int32))))
def f_X9_undo (n : Nat) (th_0 : OS) : Option (OS × Int32) :=
  if (th_0.1 15) ≤ 0 then (
  j_X9_undo_13 n th_0 (0 : Int32)) else (
  j_X9_undo_13 n th_0 (1 : Int32))
set_option maxHeartbeats 4000000 in
set_option maxRecDepth 100000 in
theorem c_X9_undo (n : Nat) (l : Launch) (k : KT) (a_th : Nat → Nat) (th_0 : OS) (res : (OS × Int32)) (hf : f_X9_undo n th_0 = some res) : CG l k yX9_undo cX9_undo 2 (some .int) 1 0 0 21 [.ref (a_th 0)] (wModel k a_th th_0) (Qi k (fun u : OS => wModel k a_th u) (fun (r : Int32) (u : OS) => res = (u, r))) := by
  refine CG.ofI (by decide) (Nat.le_of_ble_eq_true rfl) (fun p e s m args below meth c A Q E hnm hW hA hret ls hl => ?_)
  have hl : lv_has ls 2 [(0, .ref (a_th 0))] := hl
  unfold f_X9_undo at hf
  refine k_aload_n E hl 0 dX9_undo_0 rfl ?_
  refine k_aload_n E hl 0 dX9_undo_1 rfl ?_
  refine gf_X9_74 E hW 0 rfl rfl dX9_undo_2 ?_
  have J_13 : ∀ (th_j13 : OS) (s1_j13 : Int32) (H : Heap) (locs : List Loc) (ls : Array Slot) (hW : WD k A s.heap (wModel k a_th th_j13) H locs) (hl : lv_has ls 2 [(0, .ref (a_th 0))]) (hf : j_X9_undo_13 n  th_j13 s1_j13 = some res), W p l e { frames := 1, cells := 0, slots := 0, locals := 21 } s m args below meth c H locs 0 0 Q (F0 m 13 ls [.int s1_j13, .ref (a_th 0)]) := by
    intro th_j13 s1_j13 H locs ls hW hl hf
    unfold j_X9_undo_13 at hf
    obtain ⟨th_1, r_2, hg, hf⟩ := ob2 hf
    refine k_callVi (As := [.int s1_j13]) (rest := []) (ws2 := fun u => wModel k a_th (u)) (c_X9_is n l k a_th th_j13 s1_j13 (th_1, r_2) hg) E vl_X9_77 dX9_undo_13 rfl [0, 1, 2, 3, 4, 5, 6, 7, 8, 9, 10, 11, 12] 7 0 hW hA hl rfl rfl rfl rfl ⟨by decide, by decide⟩ ⟨by decide, by decide⟩ (Nat.le_of_ble_eq_true rfl) rfl (fun _ => rfl) (fun _ => rfl) (fun r u H locs hp hW => ?_)
    cases hp
    have hW : WD k A s.heap (wModel k a_th th_1) H locs := hW
    refine lv_if_ne (tgt := 21) E.hx E.hb dX9_undo_16 (by decide) (fun hc => ?_) (fun hc => ?_)
    · have hf := oF hc hf
      refine k_aload_n E hl 0 dX9_undo_21 rfl ?_
      refine k_aload_n E hl 0 dX9_undo_22 rfl ?_
      refine gf_X9_74 E hW 0 rfl rfl dX9_undo_23 ?_
      refine lv_iconst (v := (1 : Int32)) E.hx E.hb dX9_undo_26 ic_1 ?_
      refine lv_isub E.hx E.hb dX9_undo_27 ?_
      obtain ⟨th_3, eth_3, hf⟩ := oL hf
      refine pf_X9_74 (ws2 := wModel k a_th th_3) E hW 0 rfl rfl rfl (Nat.le_of_ble_eq_true rfl) dX9_undo_28 (by rw [eth_3]; rfl) (fun H locs hW => ?_)
      refine lv_iconst (v := (0 : Int32)) E.hx E.hb dX9_undo_31 ic_0 ?_
      refine k_istore_n (lv' := [(1, .int (0 : Int32)), (0, .ref (a_th 0))]) E rfl hl dX9_undo_32 rfl (by decide) rfl (fun ls hl => ?_)
      have L_33 : ∀ (N_33 : Nat) (th_j33 : OS) (w1_j33 : Int32) (H : Heap) (locs : List Loc) (ls : Array Slot) (hW : WD k A s.heap (wModel k a_th th_j33) H locs) (hl : lv_has ls 2 [(0, .ref (a_th 0)), (1, .int w1_j33)]) (hf : l_X9_undo_33 n N_33 th_j33 w1_j33 = some res), W p l e { frames := 1, cells := 0, slots := 0, locals := 21 } s m args below meth c H locs 0 0 Q (F0 m 33 ls []) := by
        intro N_33
        induction N_33 with
        | zero => intro th_j33 w1_j33 H locs ls hW hl hf; exact o0 hf
        | succ N_33 ih_33 =>
          intro th_j33 w1_j33 H locs ls hW hl hf
          have hf : s_X9_undo_33 n  (l_X9_undo_33 n N_33) th_j33 w1_j33 = some res := hf
          unfold s_X9_undo_33 at hf
          refine k_iload_n E hl 1 dX9_undo_33 rfl ?_
          refine lv_sipush (v := (1846 : Int32)) E.hx E.hb dX9_undo_34 sp_1846 ?_
          refine lv_icmp_ge (tgt := 67) E.hx E.hb dX9_undo_37 (by decide) (fun hc => ?_) (fun hc => ?_)
          · have hf := oT hc hf
            refine k_aload_n E hl 0 dX9_undo_67 rfl ?_
            refine gf_X9_74 E hW 0 rfl rfl dX9_undo_68 ?_
            exact hret _ th_j33 _ _ _ _ _ _ hW (Option.some.inj hf).symm rfl (by decide) (by decide) dX9_undo_71
          · have hf := oF hc hf
            refine k_aload_n E hl 0 dX9_undo_40 rfl ?_
            refine gf_X9_13 E hW 0 rfl rfl dX9_undo_41 ?_
            refine k_iload_n E hl 1 dX9_undo_44 rfl ?_
            refine k_aload_n E hl 0 dX9_undo_45 rfl ?_
            refine gf_X9_29 E hW 0 rfl rfl dX9_undo_46 ?_
            refine lv_sipush (v := (1846 : Int32)) E.hx E.hb dX9_undo_49 sp_1846 ?_
            refine k_aload_n E hl 0 dX9_undo_52 rfl ?_
            refine gf_X9_74 E hW 0 rfl rfl dX9_undo_53 ?_
            refine lv_imul E.hx E.hb dX9_undo_56 ?_
            refine k_iload_n E hl 1 dX9_undo_57 rfl ?_
            refine lv_iadd E.hx E.hb dX9_undo_58 ?_
            obtain ⟨hin, hf⟩ := oI hf
            obtain ⟨x_4, ex_4, hf⟩ := oL hf
            refine k_iald E hW 7 rfl hin dX9_undo_59 ?_
            refine k_topi ex_4 ?_
            obtain ⟨hin, hf⟩ := oI hf
            obtain ⟨th_5, eth_5, hf⟩ := oL hf
            refine k_iast (ws2 := wModel k a_th th_5) E hW 2 rfl hin dX9_undo_60 (by rw [eth_5]; rfl) (fun H locs hW => ?_)
            obtain ⟨v1_6, ev1_6, hf⟩ := oL hf
            refine k_iinc (lv' := [(1, .int v1_6), (0, .ref (a_th 0))]) E hl 1 dX9_undo_61 rfl (ev1_6.trans (congrArg (fun z => w1_j33 + z) ic_1.symm)) (by decide) rfl (fun ls hl => ?_)
            refine lv_goto (tgt := 33) E.hx E.hb dX9_undo_64 (by decide) ?_
            exact ih_33 th_5 v1_6 _ _ _ hW (lv_sub hl [1, 0] rfl) hf
      exact L_33 n th_3 (0 : Int32) _ _ _ hW (lv_sub hl [1, 0] rfl) hf
    · have hf := oT hc hf
      refine lv_iconst (v := (0 : Int32)) E.hx E.hb dX9_undo_19 ic_0 ?_
      exact hret _ th_1 _ _ _ _ _ _ hW (Option.some.inj hf).symm rfl (by decide) (by decide) dX9_undo_20
  refine lv_if_le (tgt := 12) E.hx E.hb dX9_undo_5 (by decide) (fun hc => ?_) (fun hc => ?_)
  · have hf := oT hc hf
    refine lv_iconst (v := (0 : Int32)) E.hx E.hb dX9_undo_12 ic_0 ?_
    exact J_13 th_0 (0 : Int32) _ _ _ hW (lv_sub hl [0] rfl) hf
  · have hf := oF hc hf
    refine lv_iconst (v := (1 : Int32)) E.hx E.hb dX9_undo_8 ic_1 ?_
    refine lv_goto (tgt := 13) E.hx E.hb dX9_undo_9 (by decide) ?_
    exact J_13 th_0 (1 : Int32) _ _ _ hW (lv_sub hl [0] rfl) hf
def f_X9_saveState (n : Nat) (th_0 : OS) : Option (OS × Int32) :=
  Let (sI th_0 0 (0 : Int32)) (fun th_1 : OS =>
  bnd (f_X9_copies n 1846 (th_1.2.1 9) 1846 (th_1.2.1 13)) (fun (y_2 : Nat → Int32) =>
  Let (sA th_1 13 y_2) (fun th_3 : OS =>
  Let (sI th_3 16 (1 : Int32)) (fun th_4 : OS =>
  gI 1846 (0 : Int32) (Let ((th_4.2.1 9) (0 : Int32).toNatClampNeg) (fun x_5 : Int32 =>
  some (th_4, x_5)))))))
set_option maxHeartbeats 4000000 in
set_option maxRecDepth 100000 in
theorem c_X9_saveState (n : Nat) (l : Launch) (k : KT) (a_th : Nat → Nat) (th_0 : OS) (res : (OS × Int32)) (hf : f_X9_saveState n th_0 = some res) : CG l k yX9_saveState cX9_saveState 1 (some .int) 1 0 0 22 [.ref (a_th 0)] (wModel k a_th th_0) (Qi k (fun u : OS => wModel k a_th u) (fun (r : Int32) (u : OS) => res = (u, r))) := by
  refine CG.ofI (by decide) (Nat.le_of_ble_eq_true rfl) (fun p e s m args below meth c A Q E hnm hW hA hret ls hl => ?_)
  have hl : lv_has ls 1 [(0, .ref (a_th 0))] := hl
  unfold f_X9_saveState at hf
  refine k_aload_n E hl 0 dX9_saveState_0 rfl ?_
  refine lv_iconst (v := (0 : Int32)) E.hx E.hb dX9_saveState_1 ic_0 ?_
  obtain ⟨th_1, eth_1, hf⟩ := oL hf
  refine pf_X9_67 (ws2 := wModel k a_th th_1) E hW 0 rfl rfl rfl (Nat.le_of_ble_eq_true rfl) dX9_saveState_2 (by rw [eth_1]; rfl) (fun H locs hW => ?_)
  refine k_aload_n E hl 0 dX9_saveState_5 rfl ?_
  refine gf_X9_13 E hW 0 rfl rfl dX9_saveState_6 ?_
  refine k_aload_n E hl 0 dX9_saveState_9 rfl ?_
  refine gf_X9_26 E hW 0 rfl rfl dX9_saveState_10 ?_
  obtain ⟨y_2, hg, hf⟩ := ob hf
  obtain ⟨th_3, eth_3, hf⟩ := oL hf
  refine k_callSv (As := [.ref (a_th 2), .ref (a_th 6)]) (rest := []) (ws2 := fun u => wModel k a_th (sA th_1 13 (u))) (c_X9_copies n l k (fun j => a_th (2 + j)) (fun j => a_th (6 + j)) 1846 (th_1.2.1 9) 1846 (th_1.2.1 13) y_2 hg) E sl_X9_70 dX9_saveState_13 rfl [2, 6] hW hA hl rfl rfl ⟨by decide, by decide⟩ ⟨by decide, by decide⟩ (Nat.le_of_ble_eq_true rfl) rfl (fun _ => rfl) (fun _ => rfl) (fun u H locs hp hW => ?_)
  cases hp
  have hW : WD k A s.heap (wModel k a_th th_3) H locs := by rw [eth_3]; exact hW
  refine k_aload_n E hl 0 dX9_saveState_16 rfl ?_
  refine lv_iconst (v := (1 : Int32)) E.hx E.hb dX9_saveState_17 ic_1 ?_
  obtain ⟨th_4, eth_4, hf⟩ := oL hf
  refine pf_X9_81 (ws2 := wModel k a_th th_4) E hW 0 rfl (by decide) (by decide) (Nat.le_of_ble_eq_true rfl) dX9_saveState_18 (by rw [eth_4]; rfl) (fun H locs hW => ?_)
  refine k_aload_n E hl 0 dX9_saveState_21 rfl ?_
  refine gf_X9_13 E hW 0 rfl rfl dX9_saveState_22 ?_
  refine lv_iconst (v := (0 : Int32)) E.hx E.hb dX9_saveState_25 ic_0 ?_
  obtain ⟨hin, hf⟩ := oI hf
  obtain ⟨x_5, ex_5, hf⟩ := oL hf
  refine k_iald E hW 2 rfl hin dX9_saveState_26 ?_
  refine k_topi ex_5 ?_
  exact hret _ th_4 _ _ _ _ _ _ hW (Option.some.inj hf).symm rfl (by decide) (by decide) dX9_saveState_27
def f_X9_restoreState (n : Nat) (th_0 : OS) : Option (OS × Int32) :=
  bnd2 (f_X9_is n th_0 (th_0.1 16)) (fun (th_1 : OS) (r_2 : Int32) =>
  if r_2 = 0 then (
  some (th_1, (0 : Int32))) else (
  bnd (f_X9_copies n 1846 (th_1.2.1 13) 1846 (th_1.2.1 9)) (fun (y_3 : Nat → Int32) =>
  Let (sA th_1 9 y_3) (fun th_4 : OS =>
  Let (sI th_4 15 (0 : Int32)) (fun th_5 : OS =>
  gI 1846 (0 : Int32) (Let ((th_5.2.1 9) (0 : Int32).toNatClampNeg) (fun x_6 : Int32 =>
  some (th_5, x_6))))))))
set_option maxHeartbeats 4000000 in
set_option maxRecDepth 100000 in
theorem c_X9_restoreState (n : Nat) (l : Launch) (k : KT) (a_th : Nat → Nat) (th_0 : OS) (res : (OS × Int32)) (hf : f_X9_restoreState n th_0 = some res) : CG l k yX9_restoreState cX9_restoreState 1 (some .int) 1 0 0 22 [.ref (a_th 0)] (wModel k a_th th_0) (Qi k (fun u : OS => wModel k a_th u) (fun (r : Int32) (u : OS) => res = (u, r))) := by
  refine CG.ofI (by decide) (Nat.le_of_ble_eq_true rfl) (fun p e s m args below meth c A Q E hnm hW hA hret ls hl => ?_)
  have hl : lv_has ls 1 [(0, .ref (a_th 0))] := hl
  unfold f_X9_restoreState at hf
  refine k_aload_n E hl 0 dX9_restoreState_0 rfl ?_
  refine k_aload_n E hl 0 dX9_restoreState_1 rfl ?_
  refine gf_X9_81 E hW 0 rfl rfl dX9_restoreState_2 ?_
  obtain ⟨th_1, r_2, hg, hf⟩ := ob2 hf
  refine k_callVi (As := [.int (th_0.1 16)]) (rest := []) (ws2 := fun u => wModel k a_th (u)) (c_X9_is n l k a_th th_0 (th_0.1 16) (th_1, r_2) hg) E vl_X9_77 dX9_restoreState_5 rfl [0, 1, 2, 3, 4, 5, 6, 7, 8, 9, 10, 11, 12] 7 0 hW hA hl rfl rfl rfl rfl ⟨by decide, by decide⟩ ⟨by decide, by decide⟩ (Nat.le_of_ble_eq_true rfl) rfl (fun _ => rfl) (fun _ => rfl) (fun r u H locs hp hW => ?_)
  cases hp
  have hW : WD k A s.heap (wModel k a_th th_1) H locs := hW
  refine lv_if_ne (tgt := 13) E.hx E.hb dX9_restoreState_8 (by decide) (fun hc => ?_) (fun hc => ?_)
  · have hf := oF hc hf
    refine k_aload_n E hl 0 dX9_restoreState_13 rfl ?_
    refine gf_X9_26 E hW 0 rfl rfl dX9_restoreState_14 ?_
    refine k_aload_n E hl 0 dX9_restoreState_17 rfl ?_
    refine gf_X9_13 E hW 0 rfl rfl dX9_restoreState_18 ?_
    obtain ⟨y_3, hg, hf⟩ := ob hf
    obtain ⟨th_4, eth_4, hf⟩ := oL hf
    refine k_callSv (As := [.ref (a_th 6), .ref (a_th 2)]) (rest := []) (ws2 := fun u => wModel k a_th (sA th_1 9 (u))) (c_X9_copies n l k (fun j => a_th (6 + j)) (fun j => a_th (2 + j)) 1846 (th_1.2.1 13) 1846 (th_1.2.1 9) y_3 hg) E sl_X9_70 dX9_restoreState_21 rfl [6, 2] hW hA hl rfl rfl ⟨by decide, by decide⟩ ⟨by decide, by decide⟩ (Nat.le_of_ble_eq_true rfl) rfl (fun _ => rfl) (fun _ => rfl) (fun u H locs hp hW => ?_)
    cases hp
    have hW : WD k A s.heap (wModel k a_th th_4) H locs := by rw [eth_4]; exact hW
    refine k_aload_n E hl 0 dX9_restoreState_24 rfl ?_
    refine lv_iconst (v := (0 : Int32)) E.hx E.hb dX9_restoreState_25 ic_0 ?_
    obtain ⟨th_5, eth_5, hf⟩ := oL hf
    refine pf_X9_74 (ws2 := wModel k a_th th_5) E hW 0 rfl rfl rfl (Nat.le_of_ble_eq_true rfl) dX9_restoreState_26 (by rw [eth_5]; rfl) (fun H locs hW => ?_)
    refine k_aload_n E hl 0 dX9_restoreState_29 rfl ?_
    refine gf_X9_13 E hW 0 rfl rfl dX9_restoreState_30 ?_
    refine lv_iconst (v := (0 : Int32)) E.hx E.hb dX9_restoreState_33 ic_0 ?_
    obtain ⟨hin, hf⟩ := oI hf
    obtain ⟨x_6, ex_6, hf⟩ := oL hf
    refine k_iald E hW 2 rfl hin dX9_restoreState_34 ?_
    refine k_topi ex_6 ?_
    exact hret _ th_5 _ _ _ _ _ _ hW (Option.some.inj hf).symm rfl (by decide) (by decide) dX9_restoreState_35
  · have hf := oT hc hf
    refine lv_iconst (v := (0 : Int32)) E.hx E.hb dX9_restoreState_11 ic_0 ?_
    exact hret _ th_1 _ _ _ _ _ _ hW (Option.some.inj hf).symm rfl (by decide) (by decide) dX9_restoreState_12
def f_X9_tries (n : Nat) (th_0 : OS) : Option (OS) :=
  bnd (f_X9_copies n 1846 (th_0.2.1 9) 1846 (th_0.2.1 12)) (fun (y_1 : Nat → Int32) =>
  Let (sA th_0 12 y_1) (fun th_2 : OS =>
  some th_2))
set_option maxHeartbeats 4000000 in
set_option maxRecDepth 100000 in
theorem c_X9_tries (n : Nat) (l : Launch) (k : KT) (a_th : Nat → Nat) (th_0 : OS) (res : (OS)) (hf : f_X9_tries n th_0 = some res) : CG l k yX9_tries cX9_tries 1 none 1 0 0 22 [.ref (a_th 0)] (wModel k a_th th_0) (Qv k (fun u : OS => wModel k a_th u) (fun u : OS => res = u)) := by
  refine CG.ofV (by decide) (Nat.le_of_ble_eq_true rfl) (fun p e s m args below meth c A Q E hnm hW hA hret ls hl => ?_)
  have hl : lv_has ls 1 [(0, .ref (a_th 0))] := hl
  unfold f_X9_tries at hf
  refine k_aload_n E hl 0 dX9_tries_0 rfl ?_
  refine gf_X9_13 E hW 0 rfl rfl dX9_tries_1 ?_
  refine k_aload_n E hl 0 dX9_tries_4 rfl ?_
  refine gf_X9_23 E hW 0 rfl rfl dX9_tries_5 ?_
  obtain ⟨y_1, hg, hf⟩ := ob hf
  obtain ⟨th_2, eth_2, hf⟩ := oL hf
  refine k_callSv (As := [.ref (a_th 2), .ref (a_th 5)]) (rest := []) (ws2 := fun u => wModel k a_th (sA th_0 12 (u))) (c_X9_copies n l k (fun j => a_th (2 + j)) (fun j => a_th (5 + j)) 1846 (th_0.2.1 9) 1846 (th_0.2.1 12) y_1 hg) E sl_X9_70 dX9_tries_8 rfl [2, 5] hW hA hl rfl rfl ⟨by decide, by decide⟩ ⟨by decide, by decide⟩ (Nat.le_of_ble_eq_true rfl) rfl (fun _ => rfl) (fun _ => rfl) (fun u H locs hp hW => ?_)
  cases hp
  have hW : WD k A s.heap (wModel k a_th th_2) H locs := by rw [eth_2]; exact hW
  exact hret th_2 _ _ _ _ _ _ hW (Option.some.inj hf).symm (by decide) (by decide) dX9_tries_11
def f_X9_laysBack (n : Nat) (th_0 : OS) (v1_0 : Int32) : Option (OS × Int32) :=
  bnd (f_X9_copies n 1846 (th_0.2.1 12) 1846 (th_0.2.1 9)) (fun (y_1 : Nat → Int32) =>
  Let (sA th_0 9 y_1) (fun th_2 : OS =>
  some (th_2, v1_0)))
set_option maxHeartbeats 4000000 in
set_option maxRecDepth 100000 in
theorem c_X9_laysBack (n : Nat) (l : Launch) (k : KT) (a_th : Nat → Nat) (th_0 : OS) (v1_0 : Int32) (res : (OS × Int32)) (hf : f_X9_laysBack n th_0 v1_0 = some res) : CG l k yX9_laysBack cX9_laysBack 2 (some .int) 1 0 0 22 [.ref (a_th 0), .int v1_0] (wModel k a_th th_0) (Qi k (fun u : OS => wModel k a_th u) (fun (r : Int32) (u : OS) => res = (u, r))) := by
  refine CG.ofI (by decide) (Nat.le_of_ble_eq_true rfl) (fun p e s m args below meth c A Q E hnm hW hA hret ls hl => ?_)
  have hl : lv_has ls 2 [(0, .ref (a_th 0)), (1, .int v1_0)] := hl
  unfold f_X9_laysBack at hf
  refine k_aload_n E hl 0 dX9_laysBack_0 rfl ?_
  refine gf_X9_23 E hW 0 rfl rfl dX9_laysBack_1 ?_
  refine k_aload_n E hl 0 dX9_laysBack_4 rfl ?_
  refine gf_X9_13 E hW 0 rfl rfl dX9_laysBack_5 ?_
  obtain ⟨y_1, hg, hf⟩ := ob hf
  obtain ⟨th_2, eth_2, hf⟩ := oL hf
  refine k_callSv (As := [.ref (a_th 5), .ref (a_th 2)]) (rest := []) (ws2 := fun u => wModel k a_th (sA th_0 9 (u))) (c_X9_copies n l k (fun j => a_th (5 + j)) (fun j => a_th (2 + j)) 1846 (th_0.2.1 12) 1846 (th_0.2.1 9) y_1 hg) E sl_X9_70 dX9_laysBack_8 rfl [5, 2] hW hA hl rfl rfl ⟨by decide, by decide⟩ ⟨by decide, by decide⟩ (Nat.le_of_ble_eq_true rfl) rfl (fun _ => rfl) (fun _ => rfl) (fun u H locs hp hW => ?_)
  cases hp
  have hW : WD k A s.heap (wModel k a_th th_2) H locs := by rw [eth_2]; exact hW
  refine k_iload_n E hl 1 dX9_laysBack_11 rfl ?_
  exact hret _ th_2 _ _ _ _ _ _ hW (Option.some.inj hf).symm rfl (by decide) (by decide) dX9_laysBack_12
def f_X9_process0 (n : Nat) (th_0 : OS) (v1_0 : Int32) (v2_0 : Int32) : Option (Int32) :=
  gI 1846 (((10 : Int32) + ((6 : Int32) * v1_0)) + v2_0) (Let ((th_0.2.1 9) (((10 : Int32) + ((6 : Int32) * v1_0)) + v2_0).toNatClampNeg) (fun x_1 : Int32 =>
  some x_1))
set_option maxHeartbeats 4000000 in
set_option maxRecDepth 100000 in
theorem c_X9_process0 (n : Nat) (l : Launch) (k : KT) (a_th : Nat → Nat) (th_0 : OS) (v1_0 : Int32) (v2_0 : Int32) (res : (Int32)) (hf : f_X9_process0 n th_0 v1_0 v2_0 = some res) : CG l k yX9_process0 cX9_process0 3 (some .int) 0 0 0 0 [.ref (a_th 0), .int v1_0, .int v2_0] (wModel k a_th th_0) (Qi k (fun u : Unit => wModel k a_th th_0) (fun (r : Int32) (u : Unit) => res = r)) := by
  refine CG.ofI (by decide) (Nat.le_of_ble_eq_true rfl) (fun p e s m args below meth c A Q E hnm hW hA hret ls hl => ?_)
  have hl : lv_has ls 3 [(0, .ref (a_th 0)), (1, .int v1_0), (2, .int v2_0)] := hl
  unfold f_X9_process0 at hf
  refine k_aload_n E hl 0 dX9_process0_0 rfl ?_
  refine gf_X9_13 E hW 0 rfl rfl dX9_process0_1 ?_
  refine lv_bipush (v := (10 : Int32)) E.hx E.hb dX9_process0_4 bp_10 ?_
  refine lv_bipush (v := (6 : Int32)) E.hx E.hb dX9_process0_6 bp_6 ?_
  refine k_iload_n E hl 1 dX9_process0_8 rfl ?_
  refine lv_imul E.hx E.hb dX9_process0_9 ?_
  refine lv_iadd E.hx E.hb dX9_process0_10 ?_
  refine k_iload_n E hl 2 dX9_process0_11 rfl ?_
  refine lv_iadd E.hx E.hb dX9_process0_12 ?_
  obtain ⟨hin, hf⟩ := oI hf
  obtain ⟨x_1, ex_1, hf⟩ := oL hf
  refine k_iald E hW 2 rfl hin dX9_process0_13 ?_
  refine k_topi ex_1 ?_
  exact hret _ () _ _ _ _ _ _ hW (Option.some.inj hf).symm rfl (by decide) (by decide) dX9_process0_14
def f_X9_sets (n : Nat) (th_0 : OS) (v1_0 : Int32) (v2_0 : Int32) (v3_0 : Int32) : Option (OS) :=
  gI 1846 (((10 : Int32) + ((6 : Int32) * v1_0)) + v2_0) (Let (sA th_0 9 (upd (th_0.2.1 9) (((10 : Int32) + ((6 : Int32) * v1_0)) + v2_0).toNatClampNeg v3_0)) (fun th_1 : OS =>
  some th_1))
set_option maxHeartbeats 4000000 in
set_option maxRecDepth 100000 in
theorem c_X9_sets (n : Nat) (l : Launch) (k : KT) (a_th : Nat → Nat) (th_0 : OS) (v1_0 : Int32) (v2_0 : Int32) (v3_0 : Int32) (res : (OS)) (hf : f_X9_sets n th_0 v1_0 v2_0 v3_0 = some res) : CG l k yX9_sets cX9_sets 4 none 0 0 0 0 [.ref (a_th 0), .int v1_0, .int v2_0, .int v3_0] (wModel k a_th th_0) (Qv k (fun u : OS => wModel k a_th u) (fun u : OS => res = u)) := by
  refine CG.ofV (by decide) (Nat.le_of_ble_eq_true rfl) (fun p e s m args below meth c A Q E hnm hW hA hret ls hl => ?_)
  have hl : lv_has ls 4 [(0, .ref (a_th 0)), (1, .int v1_0), (2, .int v2_0), (3, .int v3_0)] := hl
  unfold f_X9_sets at hf
  refine k_aload_n E hl 0 dX9_sets_0 rfl ?_
  refine gf_X9_13 E hW 0 rfl rfl dX9_sets_1 ?_
  refine lv_bipush (v := (10 : Int32)) E.hx E.hb dX9_sets_4 bp_10 ?_
  refine lv_bipush (v := (6 : Int32)) E.hx E.hb dX9_sets_6 bp_6 ?_
  refine k_iload_n E hl 1 dX9_sets_8 rfl ?_
  refine lv_imul E.hx E.hb dX9_sets_9 ?_
  refine lv_iadd E.hx E.hb dX9_sets_10 ?_
  refine k_iload_n E hl 2 dX9_sets_11 rfl ?_
  refine lv_iadd E.hx E.hb dX9_sets_12 ?_
  refine k_iload_n E hl 3 dX9_sets_13 rfl ?_
  obtain ⟨hin, hf⟩ := oI hf
  obtain ⟨th_1, eth_1, hf⟩ := oL hf
  refine k_iast (ws2 := wModel k a_th th_1) E hW 2 rfl hin dX9_sets_14 (by rw [eth_1]; rfl) (fun H locs hW => ?_)
  exact hret th_1 _ _ _ _ _ _ hW (Option.some.inj hf).symm (by decide) (by decide) dX9_sets_15
def f_X9_loan0 (n : Nat) (th_0 : OS) (v1_0 : Int32) (v2_0 : Int32) : Option (Int32) :=
  gI 1846 (((58 : Int32) + ((6 : Int32) * v1_0)) + v2_0) (Let ((th_0.2.1 9) (((58 : Int32) + ((6 : Int32) * v1_0)) + v2_0).toNatClampNeg) (fun x_1 : Int32 =>
  some x_1))
set_option maxHeartbeats 4000000 in
set_option maxRecDepth 100000 in
theorem c_X9_loan0 (n : Nat) (l : Launch) (k : KT) (a_th : Nat → Nat) (th_0 : OS) (v1_0 : Int32) (v2_0 : Int32) (res : (Int32)) (hf : f_X9_loan0 n th_0 v1_0 v2_0 = some res) : CG l k yX9_loan0 cX9_loan0 3 (some .int) 0 0 0 0 [.ref (a_th 0), .int v1_0, .int v2_0] (wModel k a_th th_0) (Qi k (fun u : Unit => wModel k a_th th_0) (fun (r : Int32) (u : Unit) => res = r)) := by
  refine CG.ofI (by decide) (Nat.le_of_ble_eq_true rfl) (fun p e s m args below meth c A Q E hnm hW hA hret ls hl => ?_)
  have hl : lv_has ls 3 [(0, .ref (a_th 0)), (1, .int v1_0), (2, .int v2_0)] := hl
  unfold f_X9_loan0 at hf
  refine k_aload_n E hl 0 dX9_loan0_0 rfl ?_
  refine gf_X9_13 E hW 0 rfl rfl dX9_loan0_1 ?_
  refine lv_bipush (v := (58 : Int32)) E.hx E.hb dX9_loan0_4 bp_58 ?_
  refine lv_bipush (v := (6 : Int32)) E.hx E.hb dX9_loan0_6 bp_6 ?_
  refine k_iload_n E hl 1 dX9_loan0_8 rfl ?_
  refine lv_imul E.hx E.hb dX9_loan0_9 ?_
  refine lv_iadd E.hx E.hb dX9_loan0_10 ?_
  refine k_iload_n E hl 2 dX9_loan0_11 rfl ?_
  refine lv_iadd E.hx E.hb dX9_loan0_12 ?_
  obtain ⟨hin, hf⟩ := oI hf
  obtain ⟨x_1, ex_1, hf⟩ := oL hf
  refine k_iald E hW 2 rfl hin dX9_loan0_13 ?_
  refine k_topi ex_1 ?_
  exact hret _ () _ _ _ _ _ _ hW (Option.some.inj hf).symm rfl (by decide) (by decide) dX9_loan0_14
def f_X9_claim0 (n : Nat) (th_0 : OS) (v1_0 : Int32) (v2_0 : Int32) : Option (Int32) :=
  gI 1846 (((602 : Int32) + ((7 : Int32) * v1_0)) + v2_0) (Let ((th_0.2.1 9) (((602 : Int32) + ((7 : Int32) * v1_0)) + v2_0).toNatClampNeg) (fun x_1 : Int32 =>
  some x_1))
set_option maxHeartbeats 4000000 in
set_option maxRecDepth 100000 in
theorem c_X9_claim0 (n : Nat) (l : Launch) (k : KT) (a_th : Nat → Nat) (th_0 : OS) (v1_0 : Int32) (v2_0 : Int32) (res : (Int32)) (hf : f_X9_claim0 n th_0 v1_0 v2_0 = some res) : CG l k yX9_claim0 cX9_claim0 3 (some .int) 0 0 0 0 [.ref (a_th 0), .int v1_0, .int v2_0] (wModel k a_th th_0) (Qi k (fun u : Unit => wModel k a_th th_0) (fun (r : Int32) (u : Unit) => res = r)) := by
  refine CG.ofI (by decide) (Nat.le_of_ble_eq_true rfl) (fun p e s m args below meth c A Q E hnm hW hA hret ls hl => ?_)
  have hl : lv_has ls 3 [(0, .ref (a_th 0)), (1, .int v1_0), (2, .int v2_0)] := hl
  unfold f_X9_claim0 at hf
  refine k_aload_n E hl 0 dX9_claim0_0 rfl ?_
  refine gf_X9_13 E hW 0 rfl rfl dX9_claim0_1 ?_
  refine lv_sipush (v := (602 : Int32)) E.hx E.hb dX9_claim0_4 sp_602 ?_
  refine lv_bipush (v := (7 : Int32)) E.hx E.hb dX9_claim0_7 bp_7 ?_
  refine k_iload_n E hl 1 dX9_claim0_9 rfl ?_
  refine lv_imul E.hx E.hb dX9_claim0_10 ?_
  refine lv_iadd E.hx E.hb dX9_claim0_11 ?_
  refine k_iload_n E hl 2 dX9_claim0_12 rfl ?_
  refine lv_iadd E.hx E.hb dX9_claim0_13 ?_
  obtain ⟨hin, hf⟩ := oI hf
  obtain ⟨x_1, ex_1, hf⟩ := oL hf
  refine k_iald E hW 2 rfl hin dX9_claim0_14 ?_
  refine k_topi ex_1 ?_
  exact hret _ () _ _ _ _ _ _ hW (Option.some.inj hf).symm rfl (by decide) (by decide) dX9_claim0_15
def f_X9_fineAt (n : Nat) (v0_0 : Int32) : Option (Int32) :=
  some ((1022 : Int32) + ((8 : Int32) * (rm32 v0_0 (40 : Int32))))
set_option maxHeartbeats 4000000 in
set_option maxRecDepth 100000 in
theorem c_X9_fineAt (n : Nat) (l : Launch) (k : KT)  (v0_0 : Int32) (res : (Int32)) (hf : f_X9_fineAt n v0_0 = some res) : CG l k yX9_fineAt cX9_fineAt 1 (some .int) 0 0 0 0 [.int v0_0] ([]) (Qi k (fun u : Unit => []) (fun (r : Int32) (u : Unit) => res = r)) := by
  refine CG.ofI (by decide) (Nat.le_of_ble_eq_true rfl) (fun p e s m args below meth c A Q E hnm hW hA hret ls hl => ?_)
  have hl : lv_has ls 1 [(0, .int v0_0)] := hl
  unfold f_X9_fineAt at hf
  refine lv_sipush (v := (1022 : Int32)) E.hx E.hb dX9_fineAt_0 sp_1022 ?_
  refine lv_bipush (v := (8 : Int32)) E.hx E.hb dX9_fineAt_3 bp_8 ?_
  refine k_iload_n E hl 0 dX9_fineAt_5 rfl ?_
  refine lv_bipush (v := (40 : Int32)) E.hx E.hb dX9_fineAt_6 bp_40 ?_
  refine lv_irem E.hx E.hb dX9_fineAt_8 (by decide) ?_
  refine lv_imul E.hx E.hb dX9_fineAt_9 ?_
  refine lv_iadd E.hx E.hb dX9_fineAt_10 ?_
  exact hret _ () _ _ _ _ _ _ hW (Option.some.inj hf).symm rfl (by decide) (by decide) dX9_fineAt_11
def f_X9_fine0 (n : Nat) (th_0 : OS) (v1_0 : Int32) (v2_0 : Int32) : Option (Int32) :=
  bnd (f_X9_fineAt n v1_0) (fun (r_1 : Int32) =>
  gI 1846 (r_1 + v2_0) (Let ((th_0.2.1 9) (r_1 + v2_0).toNatClampNeg) (fun x_2 : Int32 =>
  some x_2)))
set_option maxHeartbeats 4000000 in
set_option maxRecDepth 100000 in
theorem c_X9_fine0 (n : Nat) (l : Launch) (k : KT) (a_th : Nat → Nat) (th_0 : OS) (v1_0 : Int32) (v2_0 : Int32) (res : (Int32)) (hf : f_X9_fine0 n th_0 v1_0 v2_0 = some res) : CG l k yX9_fine0 cX9_fine0 3 (some .int) 1 0 0 20 [.ref (a_th 0), .int v1_0, .int v2_0] (wModel k a_th th_0) (Qi k (fun u : Unit => wModel k a_th th_0) (fun (r : Int32) (u : Unit) => res = r)) := by
  refine CG.ofI (by decide) (Nat.le_of_ble_eq_true rfl) (fun p e s m args below meth c A Q E hnm hW hA hret ls hl => ?_)
  have hl : lv_has ls 3 [(0, .ref (a_th 0)), (1, .int v1_0), (2, .int v2_0)] := hl
  unfold f_X9_fine0 at hf
  refine k_aload_n E hl 0 dX9_fine0_0 rfl ?_
  refine gf_X9_13 E hW 0 rfl rfl dX9_fine0_1 ?_
  refine k_iload_n E hl 1 dX9_fine0_4 rfl ?_
  obtain ⟨r_1, hg, hf⟩ := ob hf
  refine k_callSi (As := [.int v1_0]) (rest := [.ref (a_th 2)]) (ws2 := fun u => wModel k a_th th_0) (c_X9_fineAt n l k v1_0 r_1 hg) E sl_X9_85 dX9_fine0_5 rfl [] hW hA hl rfl rfl ⟨by decide, by decide⟩ ⟨by decide, by decide⟩ (Nat.le_of_ble_eq_true rfl) rfl (fun _ => rfl) (fun _ => rfl) (fun r u H locs hp hW => ?_)
  cases hp
  have hW : WD k A s.heap (wModel k a_th th_0) H locs := hW
  refine k_iload_n E hl 2 dX9_fine0_8 rfl ?_
  refine lv_iadd E.hx E.hb dX9_fine0_9 ?_
  obtain ⟨hin, hf⟩ := oI hf
  obtain ⟨x_2, ex_2, hf⟩ := oL hf
  refine k_iald E hW 2 rfl hin dX9_fine0_10 ?_
  refine k_topi ex_2 ?_
  exact hret _ () _ _ _ _ _ _ hW (Option.some.inj hf).symm rfl (by decide) (by decide) dX9_fine0_11
def f_X9_isProcess (n : Nat) (th_0 : OS) (v1_0 : Int32) : Option (Int32) :=
  bnd (f_X9_isIn n ((v1_0).toInt64) (0 : Int64) ((((th_0.1 2) - (1 : Int32))).toInt64)) (fun (r_1 : Int32) =>
  gZ r_1 (some r_1))
set_option maxHeartbeats 4000000 in
set_option maxRecDepth 100000 in
theorem c_X9_isProcess (n : Nat) (l : Launch) (k : KT) (a_th : Nat → Nat) (th_0 : OS) (v1_0 : Int32) (res : (Int32)) (hf : f_X9_isProcess n th_0 v1_0 = some res) : CG l k yX9_isProcess cX9_isProcess 2 (some .boolean) 1 0 0 25 [.ref (a_th 0), .int v1_0] (wModel k a_th th_0) (Qi k (fun u : Unit => wModel k a_th th_0) (fun (r : Int32) (u : Unit) => res = r)) := by
  refine CG.ofI (by decide) (Nat.le_of_ble_eq_true rfl) (fun p e s m args below meth c A Q E hnm hW hA hret ls hl => ?_)
  have hl : lv_has ls 2 [(0, .ref (a_th 0)), (1, .int v1_0)] := hl
  unfold f_X9_isProcess at hf
  refine k_iload_n E hl 1 dX9_isProcess_0 rfl ?_
  refine lv_i2l (v := (v1_0).toInt64) E.hx E.hb dX9_isProcess_1 rfl ?_
  refine lv_lconst (v := (0 : Int64)) E.hx E.hb dX9_isProcess_2 (by decide) ?_
  refine k_aload_n E hl 0 dX9_isProcess_3 rfl ?_
  refine gf_X9_89 E hW 0 rfl rfl dX9_isProcess_4 ?_
  refine lv_iconst (v := (1 : Int32)) E.hx E.hb dX9_isProcess_7 ic_1 ?_
  refine lv_isub E.hx E.hb dX9_isProcess_8 ?_
  refine lv_i2l (v := (((th_0.1 2) - (1 : Int32))).toInt64) E.hx E.hb dX9_isProcess_9 rfl ?_
  obtain ⟨r_1, hg, hf⟩ := ob hf
  refine k_callSi (As := [.long ((v1_0).toInt64), .long (0 : Int64), .long ((((th_0.1 2) - (1 : Int32))).toInt64)]) (rest := []) (ws2 := fun u => wModel k a_th th_0) (c_X9_isIn n l k ((v1_0).toInt64) (0 : Int64) ((((th_0.1 2) - (1 : Int32))).toInt64) r_1 hg) E sl_X9_92 dX9_isProcess_10 rfl [] hW hA hl rfl rfl ⟨by decide, by decide⟩ ⟨by decide, by decide⟩ (Nat.le_of_ble_eq_true rfl) rfl (fun _ => rfl) (fun _ => rfl) (fun r u H locs hp hW => ?_)
  cases hp
  have hW : WD k A s.heap (wModel k a_th th_0) H locs := hW
  obtain ⟨hz, hf⟩ := oZ hf
  exact hret _ () _ _ _ _ _ _ hW (Option.some.inj hf).symm hz (by decide) (by decide) dX9_isProcess_13
def f_X9_isLoan (n : Nat) (th_0 : OS) (v1_0 : Int32) : Option (Int32) :=
  gI 1846 (6 : Int32) (Let ((th_0.2.1 9) (6 : Int32).toNatClampNeg) (fun x_1 : Int32 =>
  bnd (f_X9_isIn n ((v1_0).toInt64) (0 : Int64) (((x_1 - (1 : Int32))).toInt64)) (fun (r_2 : Int32) =>
  gZ r_2 (some r_2))))
set_option maxHeartbeats 4000000 in
set_option maxRecDepth 100000 in
theorem c_X9_isLoan (n : Nat) (l : Launch) (k : KT) (a_th : Nat → Nat) (th_0 : OS) (v1_0 : Int32) (res : (Int32)) (hf : f_X9_isLoan n th_0 v1_0 = some res) : CG l k yX9_isLoan cX9_isLoan 2 (some .boolean) 1 0 0 25 [.ref (a_th 0), .int v1_0] (wModel k a_th th_0) (Qi k (fun u : Unit => wModel k a_th th_0) (fun (r : Int32) (u : Unit) => res = r)) := by
  refine CG.ofI (by decide) (Nat.le_of_ble_eq_true rfl) (fun p e s m args below meth c A Q E hnm hW hA hret ls hl => ?_)
  have hl : lv_has ls 2 [(0, .ref (a_th 0)), (1, .int v1_0)] := hl
  unfold f_X9_isLoan at hf
  refine k_iload_n E hl 1 dX9_isLoan_0 rfl ?_
  refine lv_i2l (v := (v1_0).toInt64) E.hx E.hb dX9_isLoan_1 rfl ?_
  refine lv_lconst (v := (0 : Int64)) E.hx E.hb dX9_isLoan_2 (by decide) ?_
  refine k_aload_n E hl 0 dX9_isLoan_3 rfl ?_
  refine gf_X9_13 E hW 0 rfl rfl dX9_isLoan_4 ?_
  refine lv_bipush (v := (6 : Int32)) E.hx E.hb dX9_isLoan_7 bp_6 ?_
  obtain ⟨hin, hf⟩ := oI hf
  obtain ⟨x_1, ex_1, hf⟩ := oL hf
  refine k_iald E hW 2 rfl hin dX9_isLoan_9 ?_
  refine k_topi ex_1 ?_
  refine lv_iconst (v := (1 : Int32)) E.hx E.hb dX9_isLoan_10 ic_1 ?_
  refine lv_isub E.hx E.hb dX9_isLoan_11 ?_
  refine lv_i2l (v := ((x_1 - (1 : Int32))).toInt64) E.hx E.hb dX9_isLoan_12 rfl ?_
  obtain ⟨r_2, hg, hf⟩ := ob hf
  refine k_callSi (As := [.long ((v1_0).toInt64), .long (0 : Int64), .long (((x_1 - (1 : Int32))).toInt64)]) (rest := []) (ws2 := fun u => wModel k a_th th_0) (c_X9_isIn n l k ((v1_0).toInt64) (0 : Int64) (((x_1 - (1 : Int32))).toInt64) r_2 hg) E sl_X9_92 dX9_isLoan_13 rfl [] hW hA hl rfl rfl ⟨by decide, by decide⟩ ⟨by decide, by decide⟩ (Nat.le_of_ble_eq_true rfl) rfl (fun _ => rfl) (fun _ => rfl) (fun r u H locs hp hW => ?_)
  cases hp
  have hW : WD k A s.heap (wModel k a_th th_0) H locs := hW
  obtain ⟨hz, hf⟩ := oZ hf
  exact hret _ () _ _ _ _ _ _ hW (Option.some.inj hf).symm hz (by decide) (by decide) dX9_isLoan_16
def f_X9_isClaim (n : Nat) (th_0 : OS) (v1_0 : Int32) : Option (Int32) :=
  gI 1846 (7 : Int32) (Let ((th_0.2.1 9) (7 : Int32).toNatClampNeg) (fun x_1 : Int32 =>
  bnd (f_X9_isIn n ((v1_0).toInt64) (0 : Int64) (((x_1 - (1 : Int32))).toInt64)) (fun (r_2 : Int32) =>
  gZ r_2 (some r_2))))
set_option maxHeartbeats 4000000 in
set_option maxRecDepth 100000 in
theorem c_X9_isClaim (n : Nat) (l : Launch) (k : KT) (a_th : Nat → Nat) (th_0 : OS) (v1_0 : Int32) (res : (Int32)) (hf : f_X9_isClaim n th_0 v1_0 = some res) : CG l k yX9_isClaim cX9_isClaim 2 (some .boolean) 1 0 0 25 [.ref (a_th 0), .int v1_0] (wModel k a_th th_0) (Qi k (fun u : Unit => wModel k a_th th_0) (fun (r : Int32) (u : Unit) => res = r)) := by
  refine CG.ofI (by decide) (Nat.le_of_ble_eq_true rfl) (fun p e s m args below meth c A Q E hnm hW hA hret ls hl => ?_)
  have hl : lv_has ls 2 [(0, .ref (a_th 0)), (1, .int v1_0)] := hl
  unfold f_X9_isClaim at hf
  refine k_iload_n E hl 1 dX9_isClaim_0 rfl ?_
  refine lv_i2l (v := (v1_0).toInt64) E.hx E.hb dX9_isClaim_1 rfl ?_
  refine lv_lconst (v := (0 : Int64)) E.hx E.hb dX9_isClaim_2 (by decide) ?_
  refine k_aload_n E hl 0 dX9_isClaim_3 rfl ?_
  refine gf_X9_13 E hW 0 rfl rfl dX9_isClaim_4 ?_
  refine lv_bipush (v := (7 : Int32)) E.hx E.hb dX9_isClaim_7 bp_7 ?_
  obtain ⟨hin, hf⟩ := oI hf
  obtain ⟨x_1, ex_1, hf⟩ := oL hf
  refine k_iald E hW 2 rfl hin dX9_isClaim_9 ?_
  refine k_topi ex_1 ?_
  refine lv_iconst (v := (1 : Int32)) E.hx E.hb dX9_isClaim_10 ic_1 ?_
  refine lv_isub E.hx E.hb dX9_isClaim_11 ?_
  refine lv_i2l (v := ((x_1 - (1 : Int32))).toInt64) E.hx E.hb dX9_isClaim_12 rfl ?_
  obtain ⟨r_2, hg, hf⟩ := ob hf
  refine k_callSi (As := [.long ((v1_0).toInt64), .long (0 : Int64), .long (((x_1 - (1 : Int32))).toInt64)]) (rest := []) (ws2 := fun u => wModel k a_th th_0) (c_X9_isIn n l k ((v1_0).toInt64) (0 : Int64) (((x_1 - (1 : Int32))).toInt64) r_2 hg) E sl_X9_92 dX9_isClaim_13 rfl [] hW hA hl rfl rfl ⟨by decide, by decide⟩ ⟨by decide, by decide⟩ (Nat.le_of_ble_eq_true rfl) rfl (fun _ => rfl) (fun _ => rfl) (fun r u H locs hp hW => ?_)
  cases hp
  have hW : WD k A s.heap (wModel k a_th th_0) H locs := hW
  obtain ⟨hz, hf⟩ := oZ hf
  exact hret _ () _ _ _ _ _ _ hW (Option.some.inj hf).symm hz (by decide) (by decide) dX9_isClaim_16
def f_X9_isKnown (n : Nat) (th_0 : OS) (v1_0 : Int32) : Option (Int32) :=
  gI 1846 (4 : Int32) (Let ((th_0.2.1 9) (4 : Int32).toNatClampNeg) (fun x_1 : Int32 =>
  bnd (f_X9_greater n (0 : Int32) (x_1 - (40 : Int32))) (fun (r_2 : Int32) =>
  gI 1846 (4 : Int32) (Let ((th_0.2.1 9) (4 : Int32).toNatClampNeg) (fun x_3 : Int32 =>
  bnd (f_X9_isIn n ((v1_0).toInt64) ((r_2).toInt64) (((x_3 - (1 : Int32))).toInt64)) (fun (r_4 : Int32) =>
  gZ r_4 (some r_4)))))))
set_option maxHeartbeats 4000000 in
set_option maxRecDepth 100000 in
theorem c_X9_isKnown (n : Nat) (l : Launch) (k : KT) (a_th : Nat → Nat) (th_0 : OS) (v1_0 : Int32) (res : (Int32)) (hf : f_X9_isKnown n th_0 v1_0 = some res) : CG l k yX9_isKnown cX9_isKnown 2 (some .boolean) 1 0 0 25 [.ref (a_th 0), .int v1_0] (wModel k a_th th_0) (Qi k (fun u : Unit => wModel k a_th th_0) (fun (r : Int32) (u : Unit) => res = r)) := by
  refine CG.ofI (by decide) (Nat.le_of_ble_eq_true rfl) (fun p e s m args below meth c A Q E hnm hW hA hret ls hl => ?_)
  have hl : lv_has ls 2 [(0, .ref (a_th 0)), (1, .int v1_0)] := hl
  unfold f_X9_isKnown at hf
  refine k_iload_n E hl 1 dX9_isKnown_0 rfl ?_
  refine lv_i2l (v := (v1_0).toInt64) E.hx E.hb dX9_isKnown_1 rfl ?_
  refine lv_iconst (v := (0 : Int32)) E.hx E.hb dX9_isKnown_2 ic_0 ?_
  refine k_aload_n E hl 0 dX9_isKnown_3 rfl ?_
  refine gf_X9_13 E hW 0 rfl rfl dX9_isKnown_4 ?_
  refine lv_iconst (v := (4 : Int32)) E.hx E.hb dX9_isKnown_7 ic_4 ?_
  obtain ⟨hin, hf⟩ := oI hf
  obtain ⟨x_1, ex_1, hf⟩ := oL hf
  refine k_iald E hW 2 rfl hin dX9_isKnown_8 ?_
  refine k_topi ex_1 ?_
  refine lv_bipush (v := (40 : Int32)) E.hx E.hb dX9_isKnown_9 bp_40 ?_
  refine lv_isub E.hx E.hb dX9_isKnown_11 ?_
  obtain ⟨r_2, hg, hf⟩ := ob hf
  refine k_callSi (As := [.int (0 : Int32), .int (x_1 - (40 : Int32))]) (rest := [.long ((v1_0).toInt64)]) (ws2 := fun u => wModel k a_th th_0) (c_X9_greater n l k (0 : Int32) (x_1 - (40 : Int32)) r_2 hg) E sl_X9_96 dX9_isKnown_12 rfl [] hW hA hl rfl rfl ⟨by decide, by decide⟩ ⟨by decide, by decide⟩ (Nat.le_of_ble_eq_true rfl) rfl (fun _ => rfl) (fun _ => rfl) (fun r u H locs hp hW => ?_)
  cases hp
  have hW : WD k A s.heap (wModel k a_th th_0) H locs := hW
  refine lv_i2l (v := (r_2).toInt64) E.hx E.hb dX9_isKnown_15 rfl ?_
  refine k_aload_n E hl 0 dX9_isKnown_16 rfl ?_
  refine gf_X9_13 E hW 0 rfl rfl dX9_isKnown_17 ?_
  refine lv_iconst (v := (4 : Int32)) E.hx E.hb dX9_isKnown_20 ic_4 ?_
  obtain ⟨hin, hf⟩ := oI hf
  obtain ⟨x_3, ex_3, hf⟩ := oL hf
  refine k_iald E hW 2 rfl hin dX9_isKnown_21 ?_
  refine k_topi ex_3 ?_
  refine lv_iconst (v := (1 : Int32)) E.hx E.hb dX9_isKnown_22 ic_1 ?_
  refine lv_isub E.hx E.hb dX9_isKnown_23 ?_
  refine lv_i2l (v := ((x_3 - (1 : Int32))).toInt64) E.hx E.hb dX9_isKnown_24 rfl ?_
  obtain ⟨r_4, hg, hf⟩ := ob hf
  refine k_callSi (As := [.long ((v1_0).toInt64), .long ((r_2).toInt64), .long (((x_3 - (1 : Int32))).toInt64)]) (rest := []) (ws2 := fun u => wModel k a_th th_0) (c_X9_isIn n l k ((v1_0).toInt64) ((r_2).toInt64) (((x_3 - (1 : Int32))).toInt64) r_4 hg) E sl_X9_92 dX9_isKnown_25 rfl [] hW hA hl rfl rfl ⟨by decide, by decide⟩ ⟨by decide, by decide⟩ (Nat.le_of_ble_eq_true rfl) rfl (fun _ => rfl) (fun _ => rfl) (fun r u H locs hp hW => ?_)
  cases hp
  have hW : WD k A s.heap (wModel k a_th th_0) H locs := hW
  obtain ⟨hz, hf⟩ := oZ hf
  exact hret _ () _ _ _ _ _ _ hW (Option.some.inj hf).symm hz (by decide) (by decide) dX9_isKnown_28
def s_X9_pagesOf_4 (n : Nat) (th_0 : OS) (w1_j4 : Int32) (rc_4 : (Int32) → (Int32) → Option (Int32)) (w2_j4 : Int32) (w3_j4 : Int32) : Option (Int32) :=
  if (th_0.1 1) ≤ w3_j4 then (
  some w2_j4) else (
  gI 1846 ((538 : Int32) + w3_j4) (Let ((th_0.2.1 9) ((538 : Int32) + w3_j4).toNatClampNeg) (fun x_1 : Int32 =>
  if x_1 = w1_j4 then (
  Let (w2_j4 + (1 : Int32)) (fun v2_3 : Int32 =>
  Let (w3_j4 + (1 : Int32)) (fun v3_4 : Int32 =>
  rc_4 v2_3 v3_4))) else (
  Let (w3_j4 + (1 : Int32)) (fun v3_2 : Int32 =>
  rc_4 w2_j4 v3_2)))))
def l_X9_pagesOf_4 (n : Nat) (th_0 : OS) (w1_j4 : Int32) : Nat → (Int32) → (Int32) → Option (Int32)
  | 0 => fun _ _ => none
  | N + 1 => s_X9_pagesOf_4 n th_0 w1_j4 (l_X9_pagesOf_4 n th_0 w1_j4 N)
def f_X9_pagesOf (n : Nat) (th_0 : OS) (v1_0 : Int32) : Option (Int32) :=
  l_X9_pagesOf_4 n th_0 v1_0 n (0 : Int32) (0 : Int32)
set_option maxHeartbeats 4000000 in
set_option maxRecDepth 100000 in
theorem c_X9_pagesOf (n : Nat) (l : Launch) (k : KT) (a_th : Nat → Nat) (th_0 : OS) (v1_0 : Int32) (res : (Int32)) (hf : f_X9_pagesOf n th_0 v1_0 = some res) : CG l k yX9_pagesOf cX9_pagesOf 4 (some .int) 0 0 0 0 [.ref (a_th 0), .int v1_0] (wModel k a_th th_0) (Qi k (fun u : Unit => wModel k a_th th_0) (fun (r : Int32) (u : Unit) => res = r)) := by
  refine CG.ofI (by decide) (Nat.le_of_ble_eq_true rfl) (fun p e s m args below meth c A Q E hnm hW hA hret ls hl => ?_)
  have hl : lv_has ls 4 [(0, .ref (a_th 0)), (1, .int v1_0)] := hl
  unfold f_X9_pagesOf at hf
  refine lv_iconst (v := (0 : Int32)) E.hx E.hb dX9_pagesOf_0 ic_0 ?_
  refine k_istore_n (lv' := [(2, .int (0 : Int32)), (0, .ref (a_th 0)), (1, .int v1_0)]) E rfl hl dX9_pagesOf_1 rfl (by decide) rfl (fun ls hl => ?_)
  refine lv_iconst (v := (0 : Int32)) E.hx E.hb dX9_pagesOf_2 ic_0 ?_
  refine k_istore_n (lv' := [(3, .int (0 : Int32)), (2, .int (0 : Int32)), (0, .ref (a_th 0)), (1, .int v1_0)]) E rfl hl dX9_pagesOf_3 rfl (by decide) rfl (fun ls hl => ?_)
  have L_4 : ∀ (N_4 : Nat) (w2_j4 : Int32) (w3_j4 : Int32) (H : Heap) (locs : List Loc) (ls : Array Slot) (hW : WD k A s.heap (wModel k a_th th_0) H locs) (hl : lv_has ls 4 [(0, .ref (a_th 0)), (1, .int v1_0), (2, .int w2_j4), (3, .int w3_j4)]) (hf : l_X9_pagesOf_4 n th_0 v1_0 N_4 w2_j4 w3_j4 = some res), W p l e { frames := 0, cells := 0, slots := 0, locals := 0 } s m args below meth c H locs 0 0 Q (F0 m 4 ls []) := by
    intro N_4
    induction N_4 with
    | zero => intro w2_j4 w3_j4 H locs ls hW hl hf; exact o0 hf
    | succ N_4 ih_4 =>
      intro w2_j4 w3_j4 H locs ls hW hl hf
      have hf : s_X9_pagesOf_4 n th_0 v1_0 (l_X9_pagesOf_4 n th_0 v1_0 N_4) w2_j4 w3_j4 = some res := hf
      unfold s_X9_pagesOf_4 at hf
      refine k_iload_n E hl 3 dX9_pagesOf_4 rfl ?_
      refine k_aload_n E hl 0 dX9_pagesOf_5 rfl ?_
      refine gf_X9_100 E hW 0 rfl rfl dX9_pagesOf_6 ?_
      refine lv_icmp_ge (tgt := 36) E.hx E.hb dX9_pagesOf_9 (by decide) (fun hc => ?_) (fun hc => ?_)
      · have hf := oT hc hf
        refine k_iload_n E hl 2 dX9_pagesOf_36 rfl ?_
        exact hret _ () _ _ _ _ _ _ hW (Option.some.inj hf).symm rfl (by decide) (by decide) dX9_pagesOf_37
      · have hf := oF hc hf
        refine k_aload_n E hl 0 dX9_pagesOf_12 rfl ?_
        refine gf_X9_13 E hW 0 rfl rfl dX9_pagesOf_13 ?_
        refine lv_sipush (v := (538 : Int32)) E.hx E.hb dX9_pagesOf_16 sp_538 ?_
        refine k_iload_n E hl 3 dX9_pagesOf_19 rfl ?_
        refine lv_iadd E.hx E.hb dX9_pagesOf_20 ?_
        obtain ⟨hin, hf⟩ := oI hf
        obtain ⟨x_1, ex_1, hf⟩ := oL hf
        refine k_iald E hW 2 rfl hin dX9_pagesOf_21 ?_
        refine k_topi ex_1 ?_
        refine k_iload_n E hl 1 dX9_pagesOf_22 rfl ?_
        refine lv_icmp_ne (tgt := 30) E.hx E.hb dX9_pagesOf_23 (by decide) (fun hc => ?_) (fun hc => ?_)
        · have hf := oF hc hf
          obtain ⟨v3_2, ev3_2, hf⟩ := oL hf
          refine k_iinc (lv' := [(3, .int v3_2), (0, .ref (a_th 0)), (1, .int v1_0), (2, .int w2_j4)]) E hl 3 dX9_pagesOf_30 rfl (ev3_2.trans (congrArg (fun z => w3_j4 + z) ic_1.symm)) (by decide) rfl (fun ls hl => ?_)
          refine lv_goto (tgt := 4) E.hx E.hb dX9_pagesOf_33 (by decide) ?_
          exact ih_4 w2_j4 v3_2 _ _ _ hW (lv_sub hl [1, 2, 3, 0] rfl) hf
        · have hf := oT hc hf
          refine k_iload_n E hl 2 dX9_pagesOf_26 rfl ?_
          refine lv_iconst (v := (1 : Int32)) E.hx E.hb dX9_pagesOf_27 ic_1 ?_
          refine lv_iadd E.hx E.hb dX9_pagesOf_28 ?_
          obtain ⟨v2_3, ev2_3, hf⟩ := oL hf
          refine k_istore_n (lv' := [(2, .int v2_3), (0, .ref (a_th 0)), (1, .int v1_0), (3, .int w3_j4)]) E ev2_3 hl dX9_pagesOf_29 rfl (by decide) rfl (fun ls hl => ?_)
          obtain ⟨v3_4, ev3_4, hf⟩ := oL hf
          refine k_iinc (lv' := [(3, .int v3_4), (2, .int v2_3), (0, .ref (a_th 0)), (1, .int v1_0)]) E hl 3 dX9_pagesOf_30 rfl (ev3_4.trans (congrArg (fun z => w3_j4 + z) ic_1.symm)) (by decide) rfl (fun ls hl => ?_)
          refine lv_goto (tgt := 4) E.hx E.hb dX9_pagesOf_33 (by decide) ?_
          exact ih_4 v2_3 v3_4 _ _ _ hW (lv_sub hl [2, 3, 1, 0] rfl) hf
  exact L_4 n (0 : Int32) (0 : Int32) _ _ _ hW (lv_sub hl [2, 3, 1, 0] rfl) hf
def f_X9_free (n : Nat) (th_0 : OS) : Option (Int32) :=
  bnd (f_X9_pagesOf n th_0 (-1 : Int32)) (fun (r_1 : Int32) =>
  some r_1)
set_option maxHeartbeats 4000000 in
set_option maxRecDepth 100000 in
theorem c_X9_free (n : Nat) (l : Launch) (k : KT) (a_th : Nat → Nat) (th_0 : OS) (res : (Int32)) (hf : f_X9_free n th_0 = some res) : CG l k yX9_free cX9_free 1 (some .int) 1 0 0 23 [.ref (a_th 0)] (wModel k a_th th_0) (Qi k (fun u : Unit => wModel k a_th th_0) (fun (r : Int32) (u : Unit) => res = r)) := by
  refine CG.ofI (by decide) (Nat.le_of_ble_eq_true rfl) (fun p e s m args below meth c A Q E hnm hW hA hret ls hl => ?_)
  have hl : lv_has ls 1 [(0, .ref (a_th 0))] := hl
  unfold f_X9_free at hf
  refine k_aload_n E hl 0 dX9_free_0 rfl ?_
  refine lv_iconst (v := (-1 : Int32)) E.hx E.hb dX9_free_1 ic_m1 ?_
  obtain ⟨r_1, hg, hf⟩ := ob hf
  refine k_callVi (As := [.int (-1 : Int32)]) (rest := []) (ws2 := fun u => wModel k a_th th_0) (c_X9_pagesOf n l k a_th th_0 (-1 : Int32) r_1 hg) E vl_X9_103 dX9_free_2 rfl [0, 1, 2, 3, 4, 5, 6, 7, 8, 9, 10, 11, 12] 7 0 hW hA hl rfl rfl rfl rfl ⟨by decide, by decide⟩ ⟨by decide, by decide⟩ (Nat.le_of_ble_eq_true rfl) rfl (fun _ => rfl) (fun _ => rfl) (fun r u H locs hp hW => ?_)
  cases hp
  have hW : WD k A s.heap (wModel k a_th th_0) H locs := hW
  exact hret _ () _ _ _ _ _ _ hW (Option.some.inj hf).symm rfl (by decide) (by decide) dX9_free_5
def f_X9_isBrokenLoan (n : Nat) (th_0 : OS) (v1_0 : Int32) : Option (Int32) :=
  gI 1846 (0 : Int32) (Let ((th_0.2.1 9) (0 : Int32).toNatClampNeg) (fun x_1 : Int32 =>
  bnd (f_X9_loan0 n th_0 v1_0 (1 : Int32)) (fun (r_2 : Int32) =>
  if x_1 ≤ r_2 then (
  some (0 : Int32)) else (
  bnd (f_X9_pagesOf n th_0 v1_0) (fun (r_3 : Int32) =>
  if r_3 ≤ 0 then (
  some (0 : Int32)) else (
  some (1 : Int32)))))))
set_option maxHeartbeats 4000000 in
set_option maxRecDepth 100000 in
theorem c_X9_isBrokenLoan (n : Nat) (l : Launch) (k : KT) (a_th : Nat → Nat) (th_0 : OS) (v1_0 : Int32) (res : (Int32)) (hf : f_X9_isBrokenLoan n th_0 v1_0 = some res) : CG l k yX9_isBrokenLoan cX9_isBrokenLoan 2 (some .boolean) 1 0 0 23 [.ref (a_th 0), .int v1_0] (wModel k a_th th_0) (Qi k (fun u : Unit => wModel k a_th th_0) (fun (r : Int32) (u : Unit) => res = r)) := by
  refine CG.ofI (by decide) (Nat.le_of_ble_eq_true rfl) (fun p e s m args below meth c A Q E hnm hW hA hret ls hl => ?_)
  have hl : lv_has ls 2 [(0, .ref (a_th 0)), (1, .int v1_0)] := hl
  unfold f_X9_isBrokenLoan at hf
  refine k_aload_n E hl 0 dX9_isBrokenLoan_0 rfl ?_
  refine gf_X9_13 E hW 0 rfl rfl dX9_isBrokenLoan_1 ?_
  refine lv_iconst (v := (0 : Int32)) E.hx E.hb dX9_isBrokenLoan_4 ic_0 ?_
  obtain ⟨hin, hf⟩ := oI hf
  obtain ⟨x_1, ex_1, hf⟩ := oL hf
  refine k_iald E hW 2 rfl hin dX9_isBrokenLoan_5 ?_
  refine k_topi ex_1 ?_
  refine k_aload_n E hl 0 dX9_isBrokenLoan_6 rfl ?_
  refine k_iload_n E hl 1 dX9_isBrokenLoan_7 rfl ?_
  refine lv_iconst (v := (1 : Int32)) E.hx E.hb dX9_isBrokenLoan_8 ic_1 ?_
  obtain ⟨r_2, hg, hf⟩ := ob hf
  refine k_callVi (As := [.int v1_0, .int (1 : Int32)]) (rest := [.int x_1]) (ws2 := fun u => wModel k a_th th_0) (c_X9_loan0 n l k a_th th_0 v1_0 (1 : Int32) r_2 hg) E vl_X9_106 dX9_isBrokenLoan_9 rfl [0, 1, 2, 3, 4, 5, 6, 7, 8, 9, 10, 11, 12] 7 0 hW hA hl rfl rfl rfl rfl ⟨by decide, by decide⟩ ⟨by decide, by decide⟩ (Nat.le_of_ble_eq_true rfl) rfl (fun _ => rfl) (fun _ => rfl) (fun r u H locs hp hW => ?_)
  cases hp
  have hW : WD k A s.heap (wModel k a_th th_0) H locs := hW
  refine lv_icmp_le (tgt := 27) E.hx E.hb dX9_isBrokenLoan_12 (by decide) (fun hc => ?_) (fun hc => ?_)
  · have hf := oT hc hf
    refine lv_iconst (v := (0 : Int32)) E.hx E.hb dX9_isBrokenLoan_27 ic_0 ?_
    exact hret _ () _ _ _ _ _ _ hW (Option.some.inj hf).symm (by decide) (by decide) (by decide) dX9_isBrokenLoan_28
  · have hf := oF hc hf
    refine k_aload_n E hl 0 dX9_isBrokenLoan_15 rfl ?_
    refine k_iload_n E hl 1 dX9_isBrokenLoan_16 rfl ?_
    obtain ⟨r_3, hg, hf⟩ := ob hf
    refine k_callVi (As := [.int v1_0]) (rest := []) (ws2 := fun u => wModel k a_th th_0) (c_X9_pagesOf n l k a_th th_0 v1_0 r_3 hg) E vl_X9_103 dX9_isBrokenLoan_17 rfl [0, 1, 2, 3, 4, 5, 6, 7, 8, 9, 10, 11, 12] 7 0 hW hA hl rfl rfl rfl rfl ⟨by decide, by decide⟩ ⟨by decide, by decide⟩ (Nat.le_of_ble_eq_true rfl) rfl (fun _ => rfl) (fun _ => rfl) (fun r u H locs hp hW => ?_)
    cases hp
    have hW : WD k A s.heap (wModel k a_th th_0) H locs := hW
    refine lv_if_le (tgt := 27) E.hx E.hb dX9_isBrokenLoan_20 (by decide) (fun hc => ?_) (fun hc => ?_)
    · have hf := oT hc hf
      refine lv_iconst (v := (0 : Int32)) E.hx E.hb dX9_isBrokenLoan_27 ic_0 ?_
      exact hret _ () _ _ _ _ _ _ hW (Option.some.inj hf).symm (by decide) (by decide) (by decide) dX9_isBrokenLoan_28
    · have hf := oF hc hf
      refine lv_iconst (v := (1 : Int32)) E.hx E.hb dX9_isBrokenLoan_23 ic_1 ?_
      refine lv_goto (tgt := 28) E.hx E.hb dX9_isBrokenLoan_24 (by decide) ?_
      exact hret _ () _ _ _ _ _ _ hW (Option.some.inj hf).symm (by decide) (by decide) (by decide) dX9_isBrokenLoan_28
def s_X9_brokenPages_4 (n : Nat) (th_0 : OS) (rc_4 : (Int32) → (Int32) → Option (Int32)) (w1_j4 : Int32) (w2_j4 : Int32) : Option (Int32) :=
  gI 1846 (6 : Int32) (Let ((th_0.2.1 9) (6 : Int32).toNatClampNeg) (fun x_1 : Int32 =>
  if x_1 ≤ w2_j4 then (
  some w1_j4) else (
  bnd (f_X9_isBrokenLoan n th_0 w2_j4) (fun (r_2 : Int32) =>
  if r_2 = 0 then (
  Let (w2_j4 + (1 : Int32)) (fun v2_3 : Int32 =>
  rc_4 w1_j4 v2_3)) else (
  bnd (f_X9_pagesOf n th_0 w2_j4) (fun (r_4 : Int32) =>
  Let (w1_j4 + r_4) (fun v1_5 : Int32 =>
  Let (w2_j4 + (1 : Int32)) (fun v2_6 : Int32 =>
  rc_4 v1_5 v2_6))))))))
def l_X9_brokenPages_4 (n : Nat) (th_0 : OS) : Nat → (Int32) → (Int32) → Option (Int32)
  | 0 => fun _ _ => none
  | N + 1 => s_X9_brokenPages_4 n th_0 (l_X9_brokenPages_4 n th_0 N)
def f_X9_brokenPages (n : Nat) (th_0 : OS) : Option (Int32) :=
  l_X9_brokenPages_4 n th_0 n (0 : Int32) (0 : Int32)
set_option maxHeartbeats 4000000 in
set_option maxRecDepth 100000 in
theorem c_X9_brokenPages (n : Nat) (l : Launch) (k : KT) (a_th : Nat → Nat) (th_0 : OS) (res : (Int32)) (hf : f_X9_brokenPages n th_0 = some res) : CG l k yX9_brokenPages cX9_brokenPages 3 (some .int) 2 0 0 44 [.ref (a_th 0)] (wModel k a_th th_0) (Qi k (fun u : Unit => wModel k a_th th_0) (fun (r : Int32) (u : Unit) => res = r)) := by
  refine CG.ofI (by decide) (Nat.le_of_ble_eq_true rfl) (fun p e s m args below meth c A Q E hnm hW hA hret ls hl => ?_)
  have hl : lv_has ls 3 [(0, .ref (a_th 0))] := hl
  unfold f_X9_brokenPages at hf
  refine lv_iconst (v := (0 : Int32)) E.hx E.hb dX9_brokenPages_0 ic_0 ?_
  refine k_istore_n (lv' := [(1, .int (0 : Int32)), (0, .ref (a_th 0))]) E rfl hl dX9_brokenPages_1 rfl (by decide) rfl (fun ls hl => ?_)
  refine lv_iconst (v := (0 : Int32)) E.hx E.hb dX9_brokenPages_2 ic_0 ?_
  refine k_istore_n (lv' := [(2, .int (0 : Int32)), (1, .int (0 : Int32)), (0, .ref (a_th 0))]) E rfl hl dX9_brokenPages_3 rfl (by decide) rfl (fun ls hl => ?_)
  have L_4 : ∀ (N_4 : Nat) (w1_j4 : Int32) (w2_j4 : Int32) (H : Heap) (locs : List Loc) (ls : Array Slot) (hW : WD k A s.heap (wModel k a_th th_0) H locs) (hl : lv_has ls 3 [(0, .ref (a_th 0)), (1, .int w1_j4), (2, .int w2_j4)]) (hf : l_X9_brokenPages_4 n th_0 N_4 w1_j4 w2_j4 = some res), W p l e { frames := 2, cells := 0, slots := 0, locals := 44 } s m args below meth c H locs 0 0 Q (F0 m 4 ls []) := by
    intro N_4
    induction N_4 with
    | zero => intro w1_j4 w2_j4 H locs ls hW hl hf; exact o0 hf
    | succ N_4 ih_4 =>
      intro w1_j4 w2_j4 H locs ls hW hl hf
      have hf : s_X9_brokenPages_4 n th_0 (l_X9_brokenPages_4 n th_0 N_4) w1_j4 w2_j4 = some res := hf
      unfold s_X9_brokenPages_4 at hf
      refine k_iload_n E hl 2 dX9_brokenPages_4 rfl ?_
      refine k_aload_n E hl 0 dX9_brokenPages_5 rfl ?_
      refine gf_X9_13 E hW 0 rfl rfl dX9_brokenPages_6 ?_
      refine lv_bipush (v := (6 : Int32)) E.hx E.hb dX9_brokenPages_9 bp_6 ?_
      obtain ⟨hin, hf⟩ := oI hf
      obtain ⟨x_1, ex_1, hf⟩ := oL hf
      refine k_iald E hW 2 rfl hin dX9_brokenPages_11 ?_
      refine k_topi ex_1 ?_
      refine lv_icmp_ge (tgt := 37) E.hx E.hb dX9_brokenPages_12 (by decide) (fun hc => ?_) (fun hc => ?_)
      · have hf := oT hc hf
        refine k_iload_n E hl 1 dX9_brokenPages_37 rfl ?_
        exact hret _ () _ _ _ _ _ _ hW (Option.some.inj hf).symm rfl (by decide) (by decide) dX9_brokenPages_38
      · have hf := oF hc hf
        refine k_aload_n E hl 0 dX9_brokenPages_15 rfl ?_
        refine k_iload_n E hl 2 dX9_brokenPages_16 rfl ?_
        obtain ⟨r_2, hg, hf⟩ := ob hf
        refine k_callVi (As := [.int w2_j4]) (rest := []) (ws2 := fun u => wModel k a_th th_0) (c_X9_isBrokenLoan n l k a_th th_0 w2_j4 r_2 hg) E vl_X9_109 dX9_brokenPages_17 rfl [0, 1, 2, 3, 4, 5, 6, 7, 8, 9, 10, 11, 12] 7 0 hW hA hl rfl rfl rfl rfl ⟨by decide, by decide⟩ ⟨by decide, by decide⟩ (Nat.le_of_ble_eq_true rfl) rfl (fun _ => rfl) (fun _ => rfl) (fun r u H locs hp hW => ?_)
        cases hp
        have hW : WD k A s.heap (wModel k a_th th_0) H locs := hW
        refine lv_if_eq (tgt := 31) E.hx E.hb dX9_brokenPages_20 (by decide) (fun hc => ?_) (fun hc => ?_)
        · have hf := oT hc hf
          obtain ⟨v2_3, ev2_3, hf⟩ := oL hf
          refine k_iinc (lv' := [(2, .int v2_3), (0, .ref (a_th 0)), (1, .int w1_j4)]) E hl 2 dX9_brokenPages_31 rfl (ev2_3.trans (congrArg (fun z => w2_j4 + z) ic_1.symm)) (by decide) rfl (fun ls hl => ?_)
          refine lv_goto (tgt := 4) E.hx E.hb dX9_brokenPages_34 (by decide) ?_
          exact ih_4 w1_j4 v2_3 _ _ _ hW (lv_sub hl [1, 2, 0] rfl) hf
        · have hf := oF hc hf
          refine k_iload_n E hl 1 dX9_brokenPages_23 rfl ?_
          refine k_aload_n E hl 0 dX9_brokenPages_24 rfl ?_
          refine k_iload_n E hl 2 dX9_brokenPages_25 rfl ?_
          obtain ⟨r_4, hg, hf⟩ := ob hf
          refine k_callVi (As := [.int w2_j4]) (rest := [.int w1_j4]) (ws2 := fun u => wModel k a_th th_0) (c_X9_pagesOf n l k a_th th_0 w2_j4 r_4 hg) E vl_X9_103 dX9_brokenPages_26 rfl [0, 1, 2, 3, 4, 5, 6, 7, 8, 9, 10, 11, 12] 7 0 hW hA hl rfl rfl rfl rfl ⟨by decide, by decide⟩ ⟨by decide, by decide⟩ (Nat.le_of_ble_eq_true rfl) rfl (fun _ => rfl) (fun _ => rfl) (fun r u H locs hp hW => ?_)
          cases hp
          have hW : WD k A s.heap (wModel k a_th th_0) H locs := hW
          refine lv_iadd E.hx E.hb dX9_brokenPages_29 ?_
          obtain ⟨v1_5, ev1_5, hf⟩ := oL hf
          refine k_istore_n (lv' := [(1, .int v1_5), (0, .ref (a_th 0)), (2, .int w2_j4)]) E ev1_5 hl dX9_brokenPages_30 rfl (by decide) rfl (fun ls hl => ?_)
          obtain ⟨v2_6, ev2_6, hf⟩ := oL hf
          refine k_iinc (lv' := [(2, .int v2_6), (1, .int v1_5), (0, .ref (a_th 0))]) E hl 2 dX9_brokenPages_31 rfl (ev2_6.trans (congrArg (fun z => w2_j4 + z) ic_1.symm)) (by decide) rfl (fun ls hl => ?_)
          refine lv_goto (tgt := 4) E.hx E.hb dX9_brokenPages_34 (by decide) ?_
          exact ih_4 v1_5 v2_6 _ _ _ hW (lv_sub hl [2, 1, 0] rfl) hf
  exact L_4 n (0 : Int32) (0 : Int32) _ _ _ hW (lv_sub hl [2, 1, 0] rfl) hf
def s_X9_earliestBroken_4 (n : Nat) (th_0 : OS) (rc_4 : (Int32) → (Int32) → Option (Int32)) (w1_j4 : Int32) (w2_j4 : Int32) : Option (Int32) :=
  gI 1846 (6 : Int32) (Let ((th_0.2.1 9) (6 : Int32).toNatClampNeg) (fun x_1 : Int32 =>
  if x_1 ≤ w2_j4 then (
  some w1_j4) else (
  bnd (f_X9_isBrokenLoan n th_0 w2_j4) (fun (r_2 : Int32) =>
  if r_2 = 0 then (
  Let (w2_j4 + (1 : Int32)) (fun v2_3 : Int32 =>
  rc_4 w1_j4 v2_3)) else (
  if w1_j4 = (-1 : Int32) then (
  Let (w2_j4 + (1 : Int32)) (fun v2_4 : Int32 =>
  rc_4 w2_j4 v2_4)) else (
  bnd (f_X9_loan0 n th_0 w2_j4 (1 : Int32)) (fun (r_5 : Int32) =>
  bnd (f_X9_loan0 n th_0 w1_j4 (1 : Int32)) (fun (r_6 : Int32) =>
  if r_6 ≤ r_5 then (
  Let (w2_j4 + (1 : Int32)) (fun v2_7 : Int32 =>
  rc_4 w1_j4 v2_7)) else (
  Let (w2_j4 + (1 : Int32)) (fun v2_8 : Int32 =>
  rc_4 w2_j4 v2_8))))))))))
def l_X9_earliestBroken_4 (n : Nat) (th_0 : OS) : Nat → (Int32) → (Int32) → Option (Int32)
  | 0 => fun _ _ => none
  | N + 1 => s_X9_earliestBroken_4 n th_0 (l_X9_earliestBroken_4 n th_0 N)
def f_X9_earliestBroken (n : Nat) (th_0 : OS) : Option (Int32) :=
  l_X9_earliestBroken_4 n th_0 n (-1 : Int32) (0 : Int32)
set_option maxHeartbeats 4000000 in
set_option maxRecDepth 100000 in
theorem c_X9_earliestBroken (n : Nat) (l : Launch) (k : KT) (a_th : Nat → Nat) (th_0 : OS) (res : (Int32)) (hf : f_X9_earliestBroken n th_0 = some res) : CG l k yX9_earliestBroken cX9_earliestBroken 3 (some .int) 2 0 0 44 [.ref (a_th 0)] (wModel k a_th th_0) (Qi k (fun u : Unit => wModel k a_th th_0) (fun (r : Int32) (u : Unit) => res = r)) := by
  refine CG.ofI (by decide) (Nat.le_of_ble_eq_true rfl) (fun p e s m args below meth c A Q E hnm hW hA hret ls hl => ?_)
  have hl : lv_has ls 3 [(0, .ref (a_th 0))] := hl
  unfold f_X9_earliestBroken at hf
  refine lv_iconst (v := (-1 : Int32)) E.hx E.hb dX9_earliestBroken_0 ic_m1 ?_
  refine k_istore_n (lv' := [(1, .int (-1 : Int32)), (0, .ref (a_th 0))]) E rfl hl dX9_earliestBroken_1 rfl (by decide) rfl (fun ls hl => ?_)
  refine lv_iconst (v := (0 : Int32)) E.hx E.hb dX9_earliestBroken_2 ic_0 ?_
  refine k_istore_n (lv' := [(2, .int (0 : Int32)), (1, .int (-1 : Int32)), (0, .ref (a_th 0))]) E rfl hl dX9_earliestBroken_3 rfl (by decide) rfl (fun ls hl => ?_)
  have L_4 : ∀ (N_4 : Nat) (w1_j4 : Int32) (w2_j4 : Int32) (H : Heap) (locs : List Loc) (ls : Array Slot) (hW : WD k A s.heap (wModel k a_th th_0) H locs) (hl : lv_has ls 3 [(0, .ref (a_th 0)), (1, .int w1_j4), (2, .int w2_j4)]) (hf : l_X9_earliestBroken_4 n th_0 N_4 w1_j4 w2_j4 = some res), W p l e { frames := 2, cells := 0, slots := 0, locals := 44 } s m args below meth c H locs 0 0 Q (F0 m 4 ls []) := by
    intro N_4
    induction N_4 with
    | zero => intro w1_j4 w2_j4 H locs ls hW hl hf; exact o0 hf
    | succ N_4 ih_4 =>
      intro w1_j4 w2_j4 H locs ls hW hl hf
      have hf : s_X9_earliestBroken_4 n th_0 (l_X9_earliestBroken_4 n th_0 N_4) w1_j4 w2_j4 = some res := hf
      unfold s_X9_earliestBroken_4 at hf
      refine k_iload_n E hl 2 dX9_earliestBroken_4 rfl ?_
      refine k_aload_n E hl 0 dX9_earliestBroken_5 rfl ?_
      refine gf_X9_13 E hW 0 rfl rfl dX9_earliestBroken_6 ?_
      refine lv_bipush (v := (6 : Int32)) E.hx E.hb dX9_earliestBroken_9 bp_6 ?_
      obtain ⟨hin, hf⟩ := oI hf
      obtain ⟨x_1, ex_1, hf⟩ := oL hf
      refine k_iald E hW 2 rfl hin dX9_earliestBroken_11 ?_
      refine k_topi ex_1 ?_
      refine lv_icmp_ge (tgt := 51) E.hx E.hb dX9_earliestBroken_12 (by decide) (fun hc => ?_) (fun hc => ?_)
      · have hf := oT hc hf
        refine k_iload_n E hl 1 dX9_earliestBroken_51 rfl ?_
        exact hret _ () _ _ _ _ _ _ hW (Option.some.inj hf).symm rfl (by decide) (by decide) dX9_earliestBroken_52
      · have hf := oF hc hf
        refine k_aload_n E hl 0 dX9_earliestBroken_15 rfl ?_
        refine k_iload_n E hl 2 dX9_earliestBroken_16 rfl ?_
        obtain ⟨r_2, hg, hf⟩ := ob hf
        refine k_callVi (As := [.int w2_j4]) (rest := []) (ws2 := fun u => wModel k a_th th_0) (c_X9_isBrokenLoan n l k a_th th_0 w2_j4 r_2 hg) E vl_X9_109 dX9_earliestBroken_17 rfl [0, 1, 2, 3, 4, 5, 6, 7, 8, 9, 10, 11, 12] 7 0 hW hA hl rfl rfl rfl rfl ⟨by decide, by decide⟩ ⟨by decide, by decide⟩ (Nat.le_of_ble_eq_true rfl) rfl (fun _ => rfl) (fun _ => rfl) (fun r u H locs hp hW => ?_)
        cases hp
        have hW : WD k A s.heap (wModel k a_th th_0) H locs := hW
        refine lv_if_eq (tgt := 45) E.hx E.hb dX9_earliestBroken_20 (by decide) (fun hc => ?_) (fun hc => ?_)
        · have hf := oT hc hf
          obtain ⟨v2_3, ev2_3, hf⟩ := oL hf
          refine k_iinc (lv' := [(2, .int v2_3), (0, .ref (a_th 0)), (1, .int w1_j4)]) E hl 2 dX9_earliestBroken_45 rfl (ev2_3.trans (congrArg (fun z => w2_j4 + z) ic_1.symm)) (by decide) rfl (fun ls hl => ?_)
          refine lv_goto (tgt := 4) E.hx E.hb dX9_earliestBroken_48 (by decide) ?_
          exact ih_4 w1_j4 v2_3 _ _ _ hW (lv_sub hl [1, 2, 0] rfl) hf
        · have hf := oF hc hf
          refine k_iload_n E hl 1 dX9_earliestBroken_23 rfl ?_
          refine lv_iconst (v := (-1 : Int32)) E.hx E.hb dX9_earliestBroken_24 ic_m1 ?_
          refine lv_icmp_eq (tgt := 43) E.hx E.hb dX9_earliestBroken_25 (by decide) (fun hc => ?_) (fun hc => ?_)
          · have hf := oT hc hf
            refine k_iload_n E hl 2 dX9_earliestBroken_43 rfl ?_
            refine k_istore_n (lv' := [(1, .int w2_j4), (0, .ref (a_th 0)), (2, .int w2_j4)]) E rfl hl dX9_earliestBroken_44 rfl (by decide) rfl (fun ls hl => ?_)
            obtain ⟨v2_4, ev2_4, hf⟩ := oL hf
            refine k_iinc (lv' := [(2, .int v2_4), (1, .int w2_j4), (0, .ref (a_th 0))]) E hl 2 dX9_earliestBroken_45 rfl (ev2_4.trans (congrArg (fun z => w2_j4 + z) ic_1.symm)) (by decide) rfl (fun ls hl => ?_)
            refine lv_goto (tgt := 4) E.hx E.hb dX9_earliestBroken_48 (by decide) ?_
            exact ih_4 w2_j4 v2_4 _ _ _ hW (lv_sub hl [2, 1, 0] rfl) hf
          · have hf := oF hc hf
            refine k_aload_n E hl 0 dX9_earliestBroken_28 rfl ?_
            refine k_iload_n E hl 2 dX9_earliestBroken_29 rfl ?_
            refine lv_iconst (v := (1 : Int32)) E.hx E.hb dX9_earliestBroken_30 ic_1 ?_
            obtain ⟨r_5, hg, hf⟩ := ob hf
            refine k_callVi (As := [.int w2_j4, .int (1 : Int32)]) (rest := []) (ws2 := fun u => wModel k a_th th_0) (c_X9_loan0 n l k a_th th_0 w2_j4 (1 : Int32) r_5 hg) E vl_X9_106 dX9_earliestBroken_31 rfl [0, 1, 2, 3, 4, 5, 6, 7, 8, 9, 10, 11, 12] 7 0 hW hA hl rfl rfl rfl rfl ⟨by decide, by decide⟩ ⟨by decide, by decide⟩ (Nat.le_of_ble_eq_true rfl) rfl (fun _ => rfl) (fun _ => rfl) (fun r u H locs hp hW => ?_)
            cases hp
            have hW : WD k A s.heap (wModel k a_th th_0) H locs := hW
            refine k_aload_n E hl 0 dX9_earliestBroken_34 rfl ?_
            refine k_iload_n E hl 1 dX9_earliestBroken_35 rfl ?_
            refine lv_iconst (v := (1 : Int32)) E.hx E.hb dX9_earliestBroken_36 ic_1 ?_
            obtain ⟨r_6, hg, hf⟩ := ob hf
            refine k_callVi (As := [.int w1_j4, .int (1 : Int32)]) (rest := [.int r_5]) (ws2 := fun u => wModel k a_th th_0) (c_X9_loan0 n l k a_th th_0 w1_j4 (1 : Int32) r_6 hg) E vl_X9_106 dX9_earliestBroken_37 rfl [0, 1, 2, 3, 4, 5, 6, 7, 8, 9, 10, 11, 12] 7 0 hW hA hl rfl rfl rfl rfl ⟨by decide, by decide⟩ ⟨by decide, by decide⟩ (Nat.le_of_ble_eq_true rfl) rfl (fun _ => rfl) (fun _ => rfl) (fun r u H locs hp hW => ?_)
            cases hp
            have hW : WD k A s.heap (wModel k a_th th_0) H locs := hW
            refine lv_icmp_ge (tgt := 45) E.hx E.hb dX9_earliestBroken_40 (by decide) (fun hc => ?_) (fun hc => ?_)
            · have hf := oT hc hf
              obtain ⟨v2_7, ev2_7, hf⟩ := oL hf
              refine k_iinc (lv' := [(2, .int v2_7), (0, .ref (a_th 0)), (1, .int w1_j4)]) E hl 2 dX9_earliestBroken_45 rfl (ev2_7.trans (congrArg (fun z => w2_j4 + z) ic_1.symm)) (by decide) rfl (fun ls hl => ?_)
              refine lv_goto (tgt := 4) E.hx E.hb dX9_earliestBroken_48 (by decide) ?_
              exact ih_4 w1_j4 v2_7 _ _ _ hW (lv_sub hl [1, 2, 0] rfl) hf
            · have hf := oF hc hf
              refine k_iload_n E hl 2 dX9_earliestBroken_43 rfl ?_
              refine k_istore_n (lv' := [(1, .int w2_j4), (0, .ref (a_th 0)), (2, .int w2_j4)]) E rfl hl dX9_earliestBroken_44 rfl (by decide) rfl (fun ls hl => ?_)
              obtain ⟨v2_8, ev2_8, hf⟩ := oL hf
              refine k_iinc (lv' := [(2, .int v2_8), (1, .int w2_j4), (0, .ref (a_th 0))]) E hl 2 dX9_earliestBroken_45 rfl (ev2_8.trans (congrArg (fun z => w2_j4 + z) ic_1.symm)) (by decide) rfl (fun ls hl => ?_)
              refine lv_goto (tgt := 4) E.hx E.hb dX9_earliestBroken_48 (by decide) ?_
              exact ih_4 w2_j4 v2_8 _ _ _ hW (lv_sub hl [2, 1, 0] rfl) hf
  exact L_4 n (-1 : Int32) (0 : Int32) _ _ _ hW (lv_sub hl [2, 1, 0] rfl) hf
def s_X9_frees_10 (n : Nat) (w1_j10 : Int32) (rc_10 : (OS) → (Int32) → (Int32) → Option (OS)) (th_j10 : OS) (w3_j10 : Int32) (w4_j10 : Int32) : Option (OS) :=
  if w4_j10 < 0 then (
  some th_j10) else (
  if w3_j10 ≤ 0 then (
  some th_j10) else (
  gI 1846 ((538 : Int32) + w4_j10) (Let ((th_j10.2.1 9) ((538 : Int32) + w4_j10).toNatClampNeg) (fun x_2 : Int32 =>
  if x_2 = w1_j10 then (
  gI 1846 ((538 : Int32) + w4_j10) (Let (sA th_j10 9 (upd (th_j10.2.1 9) ((538 : Int32) + w4_j10).toNatClampNeg (-1 : Int32))) (fun th_3 : OS =>
  Let (w3_j10 - (1 : Int32)) (fun v3_4 : Int32 =>
  Let (w4_j10 + (-1 : Int32)) (fun v4_5 : Int32 =>
  rc_10 th_3 v3_4 v4_5))))) else (
  Let (w4_j10 + (-1 : Int32)) (fun v4_6 : Int32 =>
  rc_10 th_j10 w3_j10 v4_6))))))
def l_X9_frees_10 (n : Nat) (w1_j10 : Int32) : Nat → (OS) → (Int32) → (Int32) → Option (OS)
  | 0 => fun _ _ _ => none
  | N + 1 => s_X9_frees_10 n w1_j10 (l_X9_frees_10 n w1_j10 N)
def f_X9_frees (n : Nat) (th_0 : OS) (v1_0 : Int32) (v2_0 : Int32) : Option (OS) :=
  Let ((th_0.1 1) - (1 : Int32)) (fun v4_1 : Int32 =>
  l_X9_frees_10 n v1_0 n th_0 v2_0 v4_1)
set_option maxHeartbeats 4000000 in
set_option maxRecDepth 100000 in
theorem c_X9_frees (n : Nat) (l : Launch) (k : KT) (a_th : Nat → Nat) (th_0 : OS) (v1_0 : Int32) (v2_0 : Int32) (res : (OS)) (hf : f_X9_frees n th_0 v1_0 v2_0 = some res) : CG l k yX9_frees cX9_frees 5 none 0 0 0 0 [.ref (a_th 0), .int v1_0, .int v2_0] (wModel k a_th th_0) (Qv k (fun u : OS => wModel k a_th u) (fun u : OS => res = u)) := by
  refine CG.ofV (by decide) (Nat.le_of_ble_eq_true rfl) (fun p e s m args below meth c A Q E hnm hW hA hret ls hl => ?_)
  have hl : lv_has ls 5 [(0, .ref (a_th 0)), (1, .int v1_0), (2, .int v2_0)] := hl
  unfold f_X9_frees at hf
  refine k_iload_n E hl 2 dX9_frees_0 rfl ?_
  refine k_istore_n (lv' := [(3, .int v2_0), (0, .ref (a_th 0)), (1, .int v1_0), (2, .int v2_0)]) E rfl hl dX9_frees_1 rfl (by decide) rfl (fun ls hl => ?_)
  refine k_aload_n E hl 1 dX9_frees_2 rfl ?_
  refine gf_X9_100 E hW 0 rfl rfl dX9_frees_3 ?_
  refine lv_iconst (v := (1 : Int32)) E.hx E.hb dX9_frees_6 ic_1 ?_
  refine lv_isub E.hx E.hb dX9_frees_7 ?_
  obtain ⟨v4_1, ev4_1, hf⟩ := oL hf
  refine k_istore (lv' := [(4, .int v4_1), (3, .int v2_0), (0, .ref (a_th 0)), (1, .int v1_0), (2, .int v2_0)]) E ev4_1 hl dX9_frees_8 (by decide) rfl (fun ls hl => ?_)
  have L_10 : ∀ (N_10 : Nat) (th_j10 : OS) (w3_j10 : Int32) (w4_j10 : Int32) (H : Heap) (locs : List Loc) (ls : Array Slot) (hW : WD k A s.heap (wModel k a_th th_j10) H locs) (hl : lv_has ls 5 [(0, .ref (a_th 0)), (1, .int v1_0), (3, .int w3_j10), (4, .int w4_j10)]) (hf : l_X9_frees_10 n v1_0 N_10 th_j10 w3_j10 w4_j10 = some res), W p l e { frames := 0, cells := 0, slots := 0, locals := 0 } s m args below meth c H locs 0 0 Q (F0 m 10 ls []) := by
    intro N_10
    induction N_10 with
    | zero => intro th_j10 w3_j10 w4_j10 H locs ls hW hl hf; exact o0 hf
    | succ N_10 ih_10 =>
      intro th_j10 w3_j10 w4_j10 H locs ls hW hl hf
      have hf : s_X9_frees_10 n v1_0 (l_X9_frees_10 n v1_0 N_10) th_j10 w3_j10 w4_j10 = some res := hf
      unfold s_X9_frees_10 at hf
      refine k_iload E hl 3 dX9_frees_10 rfl ?_
      refine lv_if_lt (tgt := 59) E.hx E.hb dX9_frees_12 (by decide) (fun hc => ?_) (fun hc => ?_)
      · have hf := oT hc hf
        exact hret th_j10 _ _ _ _ _ _ hW (Option.some.inj hf).symm (by decide) (by decide) dX9_frees_59
      · have hf := oF hc hf
        refine k_iload_n E hl 2 dX9_frees_15 rfl ?_
        refine lv_if_le (tgt := 59) E.hx E.hb dX9_frees_16 (by decide) (fun hc => ?_) (fun hc => ?_)
        · have hf := oT hc hf
          exact hret th_j10 _ _ _ _ _ _ hW (Option.some.inj hf).symm (by decide) (by decide) dX9_frees_59
        · have hf := oF hc hf
          refine k_aload_n E hl 0 dX9_frees_19 rfl ?_
          refine gf_X9_13 E hW 0 rfl rfl dX9_frees_20 ?_
          refine lv_sipush (v := (538 : Int32)) E.hx E.hb dX9_frees_23 sp_538 ?_
          refine k_iload E hl 3 dX9_frees_26 rfl ?_
          refine lv_iadd E.hx E.hb dX9_frees_28 ?_
          obtain ⟨hin, hf⟩ := oI hf
          obtain ⟨x_2, ex_2, hf⟩ := oL hf
          refine k_iald E hW 2 rfl hin dX9_frees_29 ?_
          refine k_topi ex_2 ?_
          refine k_iload_n E hl 1 dX9_frees_30 rfl ?_
          refine lv_icmp_eq (tgt := 37) E.hx E.hb dX9_frees_31 (by decide) (fun hc => ?_) (fun hc => ?_)
          · have hf := oT hc hf
            refine k_aload_n E hl 0 dX9_frees_37 rfl ?_
            refine gf_X9_13 E hW 0 rfl rfl dX9_frees_38 ?_
            refine lv_sipush (v := (538 : Int32)) E.hx E.hb dX9_frees_41 sp_538 ?_
            refine k_iload E hl 3 dX9_frees_44 rfl ?_
            refine lv_iadd E.hx E.hb dX9_frees_46 ?_
            refine lv_iconst (v := (-1 : Int32)) E.hx E.hb dX9_frees_47 ic_m1 ?_
            obtain ⟨hin, hf⟩ := oI hf
            obtain ⟨th_3, eth_3, hf⟩ := oL hf
            refine k_iast (ws2 := wModel k a_th th_3) E hW 2 rfl hin dX9_frees_48 (by rw [eth_3]; rfl) (fun H locs hW => ?_)
            refine k_iload_n E hl 2 dX9_frees_49 rfl ?_
            refine lv_iconst (v := (1 : Int32)) E.hx E.hb dX9_frees_50 ic_1 ?_
            refine lv_isub E.hx E.hb dX9_frees_51 ?_
            obtain ⟨v3_4, ev3_4, hf⟩ := oL hf
            refine k_istore_n (lv' := [(3, .int v3_4), (0, .ref (a_th 0)), (1, .int v1_0), (4, .int w4_j10)]) E ev3_4 hl dX9_frees_52 rfl (by decide) rfl (fun ls hl => ?_)
            obtain ⟨v4_5, ev4_5, hf⟩ := oL hf
            refine k_iinc (lv' := [(4, .int v4_5), (3, .int v3_4), (0, .ref (a_th 0)), (1, .int v1_0)]) E hl 3 dX9_frees_53 rfl (ev4_5.trans (congrArg (fun z => w4_j10 + z) ic_m1.symm)) (by decide) rfl (fun ls hl => ?_)
            refine lv_goto (tgt := 10) E.hx E.hb dX9_frees_56 (by decide) ?_
            exact ih_10 th_3 v3_4 v4_5 _ _ _ hW (lv_sub hl [2, 3, 1, 0] rfl) hf
          · have hf := oF hc hf
            refine lv_goto (tgt := 53) E.hx E.hb dX9_frees_34 (by decide) ?_
            obtain ⟨v4_6, ev4_6, hf⟩ := oL hf
            refine k_iinc (lv' := [(4, .int v4_6), (0, .ref (a_th 0)), (1, .int v1_0), (3, .int w3_j10)]) E hl 3 dX9_frees_53 rfl (ev4_6.trans (congrArg (fun z => w4_j10 + z) ic_m1.symm)) (by decide) rfl (fun ls hl => ?_)
            refine lv_goto (tgt := 10) E.hx E.hb dX9_frees_56 (by decide) ?_
            exact ih_10 th_j10 w3_j10 v4_6 _ _ _ hW (lv_sub hl [1, 2, 3, 0] rfl) hf
  exact L_10 n th_0 v2_0 v4_1 _ _ _ hW (lv_sub hl [2, 3, 1, 0] rfl) hf
def s_X9_lends_75 (n : Nat) (z_p0 : Nat) (w5_j75 : Int32) (rc_75 : (Nat → Int32) → (Int32) → (Int32) → Option ((Nat → Int32))) (p0_j75 : Nat → Int32) (w7_j75 : Int32) (w8_j75 : Int32) : Option ((Nat → Int32)) :=
  if w7_j75 ≤ 0 then (
  some p0_j75) else (
  gI z_p0 ((538 : Int32) + w8_j75) (Let (p0_j75 ((538 : Int32) + w8_j75).toNatClampNeg) (fun x_11 : Int32 =>
  if x_11 = (-1 : Int32) then (
  gI z_p0 ((538 : Int32) + w8_j75) (Let (upd p0_j75 ((538 : Int32) + w8_j75).toNatClampNeg w5_j75) (fun p0_12 : Nat → Int32 =>
  Let (w7_j75 - (1 : Int32)) (fun v7_13 : Int32 =>
  Let (w8_j75 + (1 : Int32)) (fun v8_14 : Int32 =>
  rc_75 p0_12 v7_13 v8_14))))) else (
  Let (w8_j75 + (1 : Int32)) (fun v8_15 : Int32 =>
  rc_75 p0_j75 w7_j75 v8_15)))))
def l_X9_lends_75 (n : Nat) (z_p0 : Nat) (w5_j75 : Int32) : Nat → (Nat → Int32) → (Int32) → (Int32) → Option ((Nat → Int32))
  | 0 => fun _ _ _ => none
  | N + 1 => s_X9_lends_75 n z_p0 w5_j75 (l_X9_lends_75 n z_p0 w5_j75 N)
def f_X9_lends (n : Nat) (z_p0 : Nat) (p0_0 : Nat → Int32) (v1_0 : Int32) (v2_0 : Int32) (v3_0 : Int32) (v4_0 : Int32) : Option ((Nat → Int32)) :=
  gI z_p0 (6 : Int32) (Let (p0_0 (6 : Int32).toNatClampNeg) (fun x_1 : Int32 =>
  Let ((58 : Int32) + ((6 : Int32) * x_1)) (fun v6_2 : Int32 =>
  gI z_p0 (v6_2 + (0 : Int32)) (Let (upd p0_0 (v6_2 + (0 : Int32)).toNatClampNeg v1_0) (fun p0_3 : Nat → Int32 =>
  gI z_p0 (v6_2 + (1 : Int32)) (Let (upd p0_3 (v6_2 + (1 : Int32)).toNatClampNeg v3_0) (fun p0_4 : Nat → Int32 =>
  gI z_p0 (0 : Int32) (Let (p0_4 (0 : Int32).toNatClampNeg) (fun x_5 : Int32 =>
  gI z_p0 (v6_2 + (2 : Int32)) (Let (upd p0_4 (v6_2 + (2 : Int32)).toNatClampNeg x_5) (fun p0_6 : Nat → Int32 =>
  gI z_p0 (v6_2 + (3 : Int32)) (Let (upd p0_6 (v6_2 + (3 : Int32)).toNatClampNeg v4_0) (fun p0_7 : Nat → Int32 =>
  gI z_p0 (v6_2 + (4 : Int32)) (Let (upd p0_7 (v6_2 + (4 : Int32)).toNatClampNeg (0 : Int32)) (fun p0_8 : Nat → Int32 =>
  gI z_p0 (v6_2 + (5 : Int32)) (Let (upd p0_8 (v6_2 + (5 : Int32)).toNatClampNeg v2_0) (fun p0_9 : Nat → Int32 =>
  gI z_p0 (6 : Int32) (Let (upd p0_9 (6 : Int32).toNatClampNeg (x_1 + (1 : Int32))) (fun p0_10 : Nat → Int32 =>
  l_X9_lends_75 n z_p0 x_1 n p0_10 v2_0 (0 : Int32))))))))))))))))))))
set_option maxHeartbeats 4000000 in
set_option maxRecDepth 100000 in
theorem c_X9_lends (n : Nat) (l : Launch) (k : KT) (a_p0 : Nat → Nat) (z_p0 : Nat) (p0_0 : Nat → Int32) (v1_0 : Int32) (v2_0 : Int32) (v3_0 : Int32) (v4_0 : Int32) (res : ((Nat → Int32))) (hf : f_X9_lends n z_p0 p0_0 v1_0 v2_0 v3_0 v4_0 = some res) : CG l k yX9_lends cX9_lends 9 none 0 0 0 0 [.ref (a_p0 0), .int v1_0, .int v2_0, .int v3_0, .int v4_0] (wIArr k a_p0 z_p0 p0_0) (Qv k (fun u : Nat → Int32 => wIArr k a_p0 z_p0 u) (fun u : Nat → Int32 => res = u)) := by
  refine CG.ofV (by decide) (Nat.le_of_ble_eq_true rfl) (fun p e s m args below meth c A Q E hnm hW hA hret ls hl => ?_)
  have hl : lv_has ls 9 [(0, .ref (a_p0 0)), (1, .int v1_0), (2, .int v2_0), (3, .int v3_0), (4, .int v4_0)] := hl
  unfold f_X9_lends at hf
  refine k_aload_n E hl 0 dX9_lends_0 rfl ?_
  refine lv_bipush (v := (6 : Int32)) E.hx E.hb dX9_lends_1 bp_6 ?_
  obtain ⟨hin, hf⟩ := oI hf
  obtain ⟨x_1, ex_1, hf⟩ := oL hf
  refine k_iald E hW 0 rfl hin dX9_lends_3 ?_
  refine k_topi ex_1 ?_
  refine k_istore (lv' := [(5, .int x_1), (0, .ref (a_p0 0)), (1, .int v1_0), (2, .int v2_0), (3, .int v3_0), (4, .int v4_0)]) E rfl hl dX9_lends_4 (by decide) rfl (fun ls hl => ?_)
  refine lv_bipush (v := (58 : Int32)) E.hx E.hb dX9_lends_6 bp_58 ?_
  refine lv_bipush (v := (6 : Int32)) E.hx E.hb dX9_lends_8 bp_6 ?_
  refine k_iload E hl 0 dX9_lends_10 rfl ?_
  refine lv_imul E.hx E.hb dX9_lends_12 ?_
  refine lv_iadd E.hx E.hb dX9_lends_13 ?_
  obtain ⟨v6_2, ev6_2, hf⟩ := oL hf
  refine k_istore (lv' := [(6, .int v6_2), (5, .int x_1), (0, .ref (a_p0 0)), (1, .int v1_0), (2, .int v2_0), (3, .int v3_0), (4, .int v4_0)]) E ev6_2 hl dX9_lends_14 (by decide) rfl (fun ls hl => ?_)
  refine k_aload_n E hl 2 dX9_lends_16 rfl ?_
  refine k_iload E hl 0 dX9_lends_17 rfl ?_
  refine lv_iconst (v := (0 : Int32)) E.hx E.hb dX9_lends_19 ic_0 ?_
  refine lv_iadd E.hx E.hb dX9_lends_20 ?_
  refine k_iload_n E hl 3 dX9_lends_21 rfl ?_
  obtain ⟨hin, hf⟩ := oI hf
  obtain ⟨p0_3, ep0_3, hf⟩ := oL hf
  refine k_iast (ws2 := wIArr k a_p0 z_p0 p0_3) E hW 0 rfl hin dX9_lends_22 (by rw [ep0_3]; rfl) (fun H locs hW => ?_)
  refine k_aload_n E hl 2 dX9_lends_23 rfl ?_
  refine k_iload E hl 0 dX9_lends_24 rfl ?_
  refine lv_iconst (v := (1 : Int32)) E.hx E.hb dX9_lends_26 ic_1 ?_
  refine lv_iadd E.hx E.hb dX9_lends_27 ?_
  refine k_iload_n E hl 5 dX9_lends_28 rfl ?_
  obtain ⟨hin, hf⟩ := oI hf
  obtain ⟨p0_4, ep0_4, hf⟩ := oL hf
  refine k_iast (ws2 := wIArr k a_p0 z_p0 p0_4) E hW 0 rfl hin dX9_lends_29 (by rw [ep0_4]; rfl) (fun H locs hW => ?_)
  refine k_aload_n E hl 2 dX9_lends_30 rfl ?_
  refine k_iload E hl 0 dX9_lends_31 rfl ?_
  refine lv_iconst (v := (2 : Int32)) E.hx E.hb dX9_lends_33 ic_2 ?_
  refine lv_iadd E.hx E.hb dX9_lends_34 ?_
  refine k_aload_n E hl 2 dX9_lends_35 rfl ?_
  refine lv_iconst (v := (0 : Int32)) E.hx E.hb dX9_lends_36 ic_0 ?_
  obtain ⟨hin, hf⟩ := oI hf
  obtain ⟨x_5, ex_5, hf⟩ := oL hf
  refine k_iald E hW 0 rfl hin dX9_lends_37 ?_
  refine k_topi ex_5 ?_
  obtain ⟨hin, hf⟩ := oI hf
  obtain ⟨p0_6, ep0_6, hf⟩ := oL hf
  refine k_iast (ws2 := wIArr k a_p0 z_p0 p0_6) E hW 0 rfl hin dX9_lends_38 (by rw [ep0_6]; rfl) (fun H locs hW => ?_)
  refine k_aload_n E hl 2 dX9_lends_39 rfl ?_
  refine k_iload E hl 0 dX9_lends_40 rfl ?_
  refine lv_iconst (v := (3 : Int32)) E.hx E.hb dX9_lends_42 ic_3 ?_
  refine lv_iadd E.hx E.hb dX9_lends_43 ?_
  refine k_iload E hl 6 dX9_lends_44 rfl ?_
  obtain ⟨hin, hf⟩ := oI hf
  obtain ⟨p0_7, ep0_7, hf⟩ := oL hf
  refine k_iast (ws2 := wIArr k a_p0 z_p0 p0_7) E hW 0 rfl hin dX9_lends_46 (by rw [ep0_7]; rfl) (fun H locs hW => ?_)
  refine k_aload_n E hl 2 dX9_lends_47 rfl ?_
  refine k_iload E hl 0 dX9_lends_48 rfl ?_
  refine lv_iconst (v := (4 : Int32)) E.hx E.hb dX9_lends_50 ic_4 ?_
  refine lv_iadd E.hx E.hb dX9_lends_51 ?_
  refine lv_iconst (v := (0 : Int32)) E.hx E.hb dX9_lends_52 ic_0 ?_
  obtain ⟨hin, hf⟩ := oI hf
  obtain ⟨p0_8, ep0_8, hf⟩ := oL hf
  refine k_iast (ws2 := wIArr k a_p0 z_p0 p0_8) E hW 0 rfl hin dX9_lends_53 (by rw [ep0_8]; rfl) (fun H locs hW => ?_)
  refine k_aload_n E hl 2 dX9_lends_54 rfl ?_
  refine k_iload E hl 0 dX9_lends_55 rfl ?_
  refine lv_iconst (v := (5 : Int32)) E.hx E.hb dX9_lends_57 ic_5 ?_
  refine lv_iadd E.hx E.hb dX9_lends_58 ?_
  refine k_iload_n E hl 4 dX9_lends_59 rfl ?_
  obtain ⟨hin, hf⟩ := oI hf
  obtain ⟨p0_9, ep0_9, hf⟩ := oL hf
  refine k_iast (ws2 := wIArr k a_p0 z_p0 p0_9) E hW 0 rfl hin dX9_lends_60 (by rw [ep0_9]; rfl) (fun H locs hW => ?_)
  refine k_aload_n E hl 2 dX9_lends_61 rfl ?_
  refine lv_bipush (v := (6 : Int32)) E.hx E.hb dX9_lends_62 bp_6 ?_
  refine k_iload E hl 1 dX9_lends_64 rfl ?_
  refine lv_iconst (v := (1 : Int32)) E.hx E.hb dX9_lends_66 ic_1 ?_
  refine lv_iadd E.hx E.hb dX9_lends_67 ?_
  obtain ⟨hin, hf⟩ := oI hf
  obtain ⟨p0_10, ep0_10, hf⟩ := oL hf
  refine k_iast (ws2 := wIArr k a_p0 z_p0 p0_10) E hW 0 rfl hin dX9_lends_68 (by rw [ep0_10]; rfl) (fun H locs hW => ?_)
  refine k_iload_n E hl 4 dX9_lends_69 rfl ?_
  refine k_istore (lv' := [(7, .int v2_0), (6, .int v6_2), (5, .int x_1), (0, .ref (a_p0 0)), (1, .int v1_0), (2, .int v2_0), (3, .int v3_0), (4, .int v4_0)]) E rfl hl dX9_lends_70 (by decide) rfl (fun ls hl => ?_)
  refine lv_iconst (v := (0 : Int32)) E.hx E.hb dX9_lends_72 ic_0 ?_
  refine k_istore (lv' := [(8, .int (0 : Int32)), (7, .int v2_0), (6, .int v6_2), (5, .int x_1), (0, .ref (a_p0 0)), (1, .int v1_0), (2, .int v2_0), (3, .int v3_0), (4, .int v4_0)]) E rfl hl dX9_lends_73 (by decide) rfl (fun ls hl => ?_)
  have L_75 : ∀ (N_75 : Nat) (p0_j75 : Nat → Int32) (w7_j75 : Int32) (w8_j75 : Int32) (H : Heap) (locs : List Loc) (ls : Array Slot) (hW : WD k A s.heap (wIArr k a_p0 z_p0 p0_j75) H locs) (hl : lv_has ls 9 [(0, .ref (a_p0 0)), (5, .int x_1), (7, .int w7_j75), (8, .int w8_j75)]) (hf : l_X9_lends_75 n z_p0 x_1 N_75 p0_j75 w7_j75 w8_j75 = some res), W p l e { frames := 0, cells := 0, slots := 0, locals := 0 } s m args below meth c H locs 0 0 Q (F0 m 75 ls []) := by
    intro N_75
    induction N_75 with
    | zero => intro p0_j75 w7_j75 w8_j75 H locs ls hW hl hf; exact o0 hf
    | succ N_75 ih_75 =>
      intro p0_j75 w7_j75 w8_j75 H locs ls hW hl hf
      have hf : s_X9_lends_75 n z_p0 x_1 (l_X9_lends_75 n z_p0 x_1 N_75) p0_j75 w7_j75 w8_j75 = some res := hf
      unfold s_X9_lends_75 at hf
      refine k_iload E hl 2 dX9_lends_75 rfl ?_
      refine lv_if_le (tgt := 117) E.hx E.hb dX9_lends_77 (by decide) (fun hc => ?_) (fun hc => ?_)
      · have hf := oT hc hf
        exact hret p0_j75 _ _ _ _ _ _ hW (Option.some.inj hf).symm (by decide) (by decide) dX9_lends_117
      · have hf := oF hc hf
        refine k_aload_n E hl 0 dX9_lends_80 rfl ?_
        refine lv_sipush (v := (538 : Int32)) E.hx E.hb dX9_lends_81 sp_538 ?_
        refine k_iload E hl 3 dX9_lends_84 rfl ?_
        refine lv_iadd E.hx E.hb dX9_lends_86 ?_
        obtain ⟨hin, hf⟩ := oI hf
        obtain ⟨x_11, ex_11, hf⟩ := oL hf
        refine k_iald E hW 0 rfl hin dX9_lends_87 ?_
        refine k_topi ex_11 ?_
        refine lv_iconst (v := (-1 : Int32)) E.hx E.hb dX9_lends_88 ic_m1 ?_
        refine lv_icmp_eq (tgt := 95) E.hx E.hb dX9_lends_89 (by decide) (fun hc => ?_) (fun hc => ?_)
        · have hf := oT hc hf
          refine k_aload_n E hl 0 dX9_lends_95 rfl ?_
          refine lv_sipush (v := (538 : Int32)) E.hx E.hb dX9_lends_96 sp_538 ?_
          refine k_iload E hl 3 dX9_lends_99 rfl ?_
          refine lv_iadd E.hx E.hb dX9_lends_101 ?_
          refine k_iload E hl 1 dX9_lends_102 rfl ?_
          obtain ⟨hin, hf⟩ := oI hf
          obtain ⟨p0_12, ep0_12, hf⟩ := oL hf
          refine k_iast (ws2 := wIArr k a_p0 z_p0 p0_12) E hW 0 rfl hin dX9_lends_104 (by rw [ep0_12]; rfl) (fun H locs hW => ?_)
          refine k_iload E hl 2 dX9_lends_105 rfl ?_
          refine lv_iconst (v := (1 : Int32)) E.hx E.hb dX9_lends_107 ic_1 ?_
          refine lv_isub E.hx E.hb dX9_lends_108 ?_
          obtain ⟨v7_13, ev7_13, hf⟩ := oL hf
          refine k_istore (lv' := [(7, .int v7_13), (0, .ref (a_p0 0)), (5, .int x_1), (8, .int w8_j75)]) E ev7_13 hl dX9_lends_109 (by decide) rfl (fun ls hl => ?_)
          obtain ⟨v8_14, ev8_14, hf⟩ := oL hf
          refine k_iinc (lv' := [(8, .int v8_14), (7, .int v7_13), (0, .ref (a_p0 0)), (5, .int x_1)]) E hl 3 dX9_lends_111 rfl (ev8_14.trans (congrArg (fun z => w8_j75 + z) ic_1.symm)) (by decide) rfl (fun ls hl => ?_)
          refine lv_goto (tgt := 75) E.hx E.hb dX9_lends_114 (by decide) ?_
          exact ih_75 p0_12 v7_13 v8_14 _ _ _ hW (lv_sub hl [2, 3, 1, 0] rfl) hf
        · have hf := oF hc hf
          refine lv_goto (tgt := 111) E.hx E.hb dX9_lends_92 (by decide) ?_
          obtain ⟨v8_15, ev8_15, hf⟩ := oL hf
          refine k_iinc (lv' := [(8, .int v8_15), (0, .ref (a_p0 0)), (5, .int x_1), (7, .int w7_j75)]) E hl 3 dX9_lends_111 rfl (ev8_15.trans (congrArg (fun z => w8_j75 + z) ic_1.symm)) (by decide) rfl (fun ls hl => ?_)
          refine lv_goto (tgt := 75) E.hx E.hb dX9_lends_114 (by decide) ?_
          exact ih_75 p0_j75 w7_j75 v8_15 _ _ _ hW (lv_sub hl [1, 2, 3, 0] rfl) hf
  exact L_75 n p0_10 v2_0 (0 : Int32) _ _ _ hW (lv_sub hl [4, 3, 1, 0] rfl) hf
def f_X9_asks (n : Nat) (z_p0 : Nat) (p0_0 : Nat → Int32) (v1_0 : Int32) (v2_0 : Int32) (v3_0 : Int32) : Option ((Nat → Int32) × Int32) :=
  gI z_p0 (7 : Int32) (Let (p0_0 (7 : Int32).toNatClampNeg) (fun x_1 : Int32 =>
  Let ((602 : Int32) + ((7 : Int32) * x_1)) (fun v5_2 : Int32 =>
  gI z_p0 (v5_2 + (0 : Int32)) (Let (upd p0_0 (v5_2 + (0 : Int32)).toNatClampNeg v1_0) (fun p0_3 : Nat → Int32 =>
  gI z_p0 (v5_2 + (1 : Int32)) (Let (upd p0_3 (v5_2 + (1 : Int32)).toNatClampNeg v2_0) (fun p0_4 : Nat → Int32 =>
  gI z_p0 (v5_2 + (2 : Int32)) (Let (upd p0_4 (v5_2 + (2 : Int32)).toNatClampNeg v3_0) (fun p0_5 : Nat → Int32 =>
  gI z_p0 (v5_2 + (3 : Int32)) (Let (upd p0_5 (v5_2 + (3 : Int32)).toNatClampNeg (0 : Int32)) (fun p0_6 : Nat → Int32 =>
  gI z_p0 (v5_2 + (4 : Int32)) (Let (upd p0_6 (v5_2 + (4 : Int32)).toNatClampNeg (0 : Int32)) (fun p0_7 : Nat → Int32 =>
  gI z_p0 (v5_2 + (5 : Int32)) (Let (upd p0_7 (v5_2 + (5 : Int32)).toNatClampNeg (-1 : Int32)) (fun p0_8 : Nat → Int32 =>
  gI z_p0 (0 : Int32) (Let (p0_8 (0 : Int32).toNatClampNeg) (fun x_9 : Int32 =>
  gI z_p0 (v5_2 + (6 : Int32)) (Let (upd p0_8 (v5_2 + (6 : Int32)).toNatClampNeg x_9) (fun p0_10 : Nat → Int32 =>
  gI z_p0 (7 : Int32) (Let (upd p0_10 (7 : Int32).toNatClampNeg (x_1 + (1 : Int32))) (fun p0_11 : Nat → Int32 =>
  some (p0_11, x_1))))))))))))))))))))))
set_option maxHeartbeats 4000000 in
set_option maxRecDepth 100000 in
theorem c_X9_asks (n : Nat) (l : Launch) (k : KT) (a_p0 : Nat → Nat) (z_p0 : Nat) (p0_0 : Nat → Int32) (v1_0 : Int32) (v2_0 : Int32) (v3_0 : Int32) (res : ((Nat → Int32) × Int32)) (hf : f_X9_asks n z_p0 p0_0 v1_0 v2_0 v3_0 = some res) : CG l k yX9_asks cX9_asks 6 (some .int) 0 0 0 0 [.ref (a_p0 0), .int v1_0, .int v2_0, .int v3_0] (wIArr k a_p0 z_p0 p0_0) (Qi k (fun u : Nat → Int32 => wIArr k a_p0 z_p0 u) (fun (r : Int32) (u : Nat → Int32) => res = (u, r))) := by
  refine CG.ofI (by decide) (Nat.le_of_ble_eq_true rfl) (fun p e s m args below meth c A Q E hnm hW hA hret ls hl => ?_)
  have hl : lv_has ls 6 [(0, .ref (a_p0 0)), (1, .int v1_0), (2, .int v2_0), (3, .int v3_0)] := hl
  unfold f_X9_asks at hf
  refine k_aload_n E hl 0 dX9_asks_0 rfl ?_
  refine lv_bipush (v := (7 : Int32)) E.hx E.hb dX9_asks_1 bp_7 ?_
  obtain ⟨hin, hf⟩ := oI hf
  obtain ⟨x_1, ex_1, hf⟩ := oL hf
  refine k_iald E hW 0 rfl hin dX9_asks_3 ?_
  refine k_topi ex_1 ?_
  refine k_istore (lv' := [(4, .int x_1), (0, .ref (a_p0 0)), (1, .int v1_0), (2, .int v2_0), (3, .int v3_0)]) E rfl hl dX9_asks_4 (by decide) rfl (fun ls hl => ?_)
  refine lv_sipush (v := (602 : Int32)) E.hx E.hb dX9_asks_6 sp_602 ?_
  refine lv_bipush (v := (7 : Int32)) E.hx E.hb dX9_asks_9 bp_7 ?_
  refine k_iload E hl 0 dX9_asks_11 rfl ?_
  refine lv_imul E.hx E.hb dX9_asks_13 ?_
  refine lv_iadd E.hx E.hb dX9_asks_14 ?_
  obtain ⟨v5_2, ev5_2, hf⟩ := oL hf
  refine k_istore (lv' := [(5, .int v5_2), (4, .int x_1), (0, .ref (a_p0 0)), (1, .int v1_0), (2, .int v2_0), (3, .int v3_0)]) E ev5_2 hl dX9_asks_15 (by decide) rfl (fun ls hl => ?_)
  refine k_aload_n E hl 2 dX9_asks_17 rfl ?_
  refine k_iload E hl 0 dX9_asks_18 rfl ?_
  refine lv_iconst (v := (0 : Int32)) E.hx E.hb dX9_asks_20 ic_0 ?_
  refine lv_iadd E.hx E.hb dX9_asks_21 ?_
  refine k_iload_n E hl 3 dX9_asks_22 rfl ?_
  obtain ⟨hin, hf⟩ := oI hf
  obtain ⟨p0_3, ep0_3, hf⟩ := oL hf
  refine k_iast (ws2 := wIArr k a_p0 z_p0 p0_3) E hW 0 rfl hin dX9_asks_23 (by rw [ep0_3]; rfl) (fun H locs hW => ?_)
  refine k_aload_n E hl 2 dX9_asks_24 rfl ?_
  refine k_iload E hl 0 dX9_asks_25 rfl ?_
  refine lv_iconst (v := (1 : Int32)) E.hx E.hb dX9_asks_27 ic_1 ?_
  refine lv_iadd E.hx E.hb dX9_asks_28 ?_
  refine k_iload_n E hl 4 dX9_asks_29 rfl ?_
  obtain ⟨hin, hf⟩ := oI hf
  obtain ⟨p0_4, ep0_4, hf⟩ := oL hf
  refine k_iast (ws2 := wIArr k a_p0 z_p0 p0_4) E hW 0 rfl hin dX9_asks_30 (by rw [ep0_4]; rfl) (fun H locs hW => ?_)
  refine k_aload_n E hl 2 dX9_asks_31 rfl ?_
  refine k_iload E hl 0 dX9_asks_32 rfl ?_
  refine lv_iconst (v := (2 : Int32)) E.hx E.hb dX9_asks_34 ic_2 ?_
  refine lv_iadd E.hx E.hb dX9_asks_35 ?_
  refine k_iload_n E hl 5 dX9_asks_36 rfl ?_
  obtain ⟨hin, hf⟩ := oI hf
  obtain ⟨p0_5, ep0_5, hf⟩ := oL hf
  refine k_iast (ws2 := wIArr k a_p0 z_p0 p0_5) E hW 0 rfl hin dX9_asks_37 (by rw [ep0_5]; rfl) (fun H locs hW => ?_)
  refine k_aload_n E hl 2 dX9_asks_38 rfl ?_
  refine k_iload E hl 0 dX9_asks_39 rfl ?_
  refine lv_iconst (v := (3 : Int32)) E.hx E.hb dX9_asks_41 ic_3 ?_
  refine lv_iadd E.hx E.hb dX9_asks_42 ?_
  refine lv_iconst (v := (0 : Int32)) E.hx E.hb dX9_asks_43 ic_0 ?_
  obtain ⟨hin, hf⟩ := oI hf
  obtain ⟨p0_6, ep0_6, hf⟩ := oL hf
  refine k_iast (ws2 := wIArr k a_p0 z_p0 p0_6) E hW 0 rfl hin dX9_asks_44 (by rw [ep0_6]; rfl) (fun H locs hW => ?_)
  refine k_aload_n E hl 2 dX9_asks_45 rfl ?_
  refine k_iload E hl 0 dX9_asks_46 rfl ?_
  refine lv_iconst (v := (4 : Int32)) E.hx E.hb dX9_asks_48 ic_4 ?_
  refine lv_iadd E.hx E.hb dX9_asks_49 ?_
  refine lv_iconst (v := (0 : Int32)) E.hx E.hb dX9_asks_50 ic_0 ?_
  obtain ⟨hin, hf⟩ := oI hf
  obtain ⟨p0_7, ep0_7, hf⟩ := oL hf
  refine k_iast (ws2 := wIArr k a_p0 z_p0 p0_7) E hW 0 rfl hin dX9_asks_51 (by rw [ep0_7]; rfl) (fun H locs hW => ?_)
  refine k_aload_n E hl 2 dX9_asks_52 rfl ?_
  refine k_iload E hl 0 dX9_asks_53 rfl ?_
  refine lv_iconst (v := (5 : Int32)) E.hx E.hb dX9_asks_55 ic_5 ?_
  refine lv_iadd E.hx E.hb dX9_asks_56 ?_
  refine lv_iconst (v := (-1 : Int32)) E.hx E.hb dX9_asks_57 ic_m1 ?_
  obtain ⟨hin, hf⟩ := oI hf
  obtain ⟨p0_8, ep0_8, hf⟩ := oL hf
  refine k_iast (ws2 := wIArr k a_p0 z_p0 p0_8) E hW 0 rfl hin dX9_asks_58 (by rw [ep0_8]; rfl) (fun H locs hW => ?_)
  refine k_aload_n E hl 2 dX9_asks_59 rfl ?_
  refine k_iload E hl 0 dX9_asks_60 rfl ?_
  refine lv_bipush (v := (6 : Int32)) E.hx E.hb dX9_asks_62 bp_6 ?_
  refine lv_iadd E.hx E.hb dX9_asks_64 ?_
  refine k_aload_n E hl 2 dX9_asks_65 rfl ?_
  refine lv_iconst (v := (0 : Int32)) E.hx E.hb dX9_asks_66 ic_0 ?_
  obtain ⟨hin, hf⟩ := oI hf
  obtain ⟨x_9, ex_9, hf⟩ := oL hf
  refine k_iald E hW 0 rfl hin dX9_asks_67 ?_
  refine k_topi ex_9 ?_
  obtain ⟨hin, hf⟩ := oI hf
  obtain ⟨p0_10, ep0_10, hf⟩ := oL hf
  refine k_iast (ws2 := wIArr k a_p0 z_p0 p0_10) E hW 0 rfl hin dX9_asks_68 (by rw [ep0_10]; rfl) (fun H locs hW => ?_)
  refine k_aload_n E hl 2 dX9_asks_69 rfl ?_
  refine lv_bipush (v := (7 : Int32)) E.hx E.hb dX9_asks_70 bp_7 ?_
  refine k_iload E hl 1 dX9_asks_72 rfl ?_
  refine lv_iconst (v := (1 : Int32)) E.hx E.hb dX9_asks_74 ic_1 ?_
  refine lv_iadd E.hx E.hb dX9_asks_75 ?_
  obtain ⟨hin, hf⟩ := oI hf
  obtain ⟨p0_11, ep0_11, hf⟩ := oL hf
  refine k_iast (ws2 := wIArr k a_p0 z_p0 p0_11) E hW 0 rfl hin dX9_asks_76 (by rw [ep0_11]; rfl) (fun H locs hW => ?_)
  refine k_iload E hl 1 dX9_asks_77 rfl ?_
  exact hret _ p0_11 _ _ _ _ _ _ hW (Option.some.inj hf).symm rfl (by decide) (by decide) dX9_asks_79
def j_X9_finesFor_251 (n : Nat) (th_j251 : OS) (w2_j251 : Int32) (w5_j251 : Int32) : Option (OS) :=
  if w2_j251 = (th_j251.1 19) then (
  Let (sI th_j251 20 ((th_j251.1 20) + w5_j251)) (fun th_32 : OS =>
  some th_32)) else (
  some th_j251)
def f_X9_finesFor (n : Nat) (th_0 : OS) (v1_0 : Int32) : Option (OS) :=
  bnd (f_X9_loan0 n th_0 v1_0 (0 : Int32)) (fun (r_1 : Int32) =>
  bnd (f_X9_loan0 n th_0 v1_0 (1 : Int32)) (fun (r_2 : Int32) =>
  gI 1846 (3 : Int32) (Let ((th_0.2.1 9) (3 : Int32).toNatClampNeg) (fun x_3 : Int32 =>
  bnd (f_X9_greater n r_2 x_3) (fun (r_4 : Int32) =>
  gI 1846 (0 : Int32) (Let ((th_0.2.1 9) (0 : Int32).toNatClampNeg) (fun x_5 : Int32 =>
  bnd (f_X9_pagesOf n th_0 v1_0) (fun (r_6 : Int32) =>
  Let ((x_5 - r_4) * r_6) (fun v4_7 : Int32 =>
  bnd (f_X9_process0 n th_0 r_1 (0 : Int32)) (fun (r_8 : Int32) =>
  bnd (f_X9_upwards n (v4_7 * ((th_0.1 4) + r_8)) (100 : Int32)) (fun (r_9 : Int32) =>
  bnd (f_X9_lesser n (200 : Int32) r_9) (fun (r_10 : Int32) =>
  bnd (f_X9_process0 n th_0 r_1 (1 : Int32)) (fun (r_11 : Int32) =>
  bnd (f_X9_lesser n (999 : Int32) (r_11 + r_10)) (fun (r_12 : Int32) =>
  bnd (f_X9_sets n th_0 r_1 (1 : Int32) r_12) (fun (th_13 : OS) =>
  bnd (f_X9_process0 n th_13 r_1 (0 : Int32)) (fun (r_14 : Int32) =>
  bnd (f_X9_lesser n (999 : Int32) (r_14 + v4_7)) (fun (r_15 : Int32) =>
  bnd (f_X9_sets n th_13 r_1 (0 : Int32) r_15) (fun (th_16 : OS) =>
  bnd (f_X9_process0 n th_16 r_1 (4 : Int32)) (fun (r_17 : Int32) =>
  bnd (f_X9_sets n th_16 r_1 (4 : Int32) (r_17 + (1 : Int32))) (fun (th_18 : OS) =>
  gI 1846 (4 : Int32) (Let ((th_18.2.1 9) (4 : Int32).toNatClampNeg) (fun x_19 : Int32 =>
  bnd (f_X9_fineAt n x_19) (fun (r_20 : Int32) =>
  gI 1846 (r_20 + (0 : Int32)) (Let (sA th_18 9 (upd (th_18.2.1 9) (r_20 + (0 : Int32)).toNatClampNeg r_1)) (fun th_21 : OS =>
  gI 1846 (r_20 + (1 : Int32)) (Let (sA th_21 9 (upd (th_21.2.1 9) (r_20 + (1 : Int32)).toNatClampNeg v1_0)) (fun th_22 : OS =>
  gI 1846 (r_20 + (2 : Int32)) (Let (sA th_22 9 (upd (th_22.2.1 9) (r_20 + (2 : Int32)).toNatClampNeg v4_7)) (fun th_23 : OS =>
  gI 1846 (r_20 + (3 : Int32)) (Let (sA th_23 9 (upd (th_23.2.1 9) (r_20 + (3 : Int32)).toNatClampNeg r_4)) (fun th_24 : OS =>
  gI 1846 (0 : Int32) (Let ((th_24.2.1 9) (0 : Int32).toNatClampNeg) (fun x_25 : Int32 =>
  gI 1846 (r_20 + (4 : Int32)) (Let (sA th_24 9 (upd (th_24.2.1 9) (r_20 + (4 : Int32)).toNatClampNeg x_25)) (fun th_26 : OS =>
  gI 1846 (r_20 + (5 : Int32)) (Let (sA th_26 9 (upd (th_26.2.1 9) (r_20 + (5 : Int32)).toNatClampNeg r_10)) (fun th_27 : OS =>
  gI 1846 (r_20 + (6 : Int32)) (Let (sA th_27 9 (upd (th_27.2.1 9) (r_20 + (6 : Int32)).toNatClampNeg (0 : Int32))) (fun th_28 : OS =>
  gI 1846 (r_20 + (7 : Int32)) (Let (sA th_28 9 (upd (th_28.2.1 9) (r_20 + (7 : Int32)).toNatClampNeg r_10)) (fun th_29 : OS =>
  gI 1846 (4 : Int32) (Let ((th_29.2.1 9) (4 : Int32).toNatClampNeg) (fun x_30 : Int32 =>
  gI 1846 (4 : Int32) (Let (sA th_29 9 (upd (th_29.2.1 9) (4 : Int32).toNatClampNeg (x_30 + (1 : Int32)))) (fun th_31 : OS =>
  if v1_0 = (th_31.1 17) then (
  Let (sI th_31 18 r_10) (fun th_33 : OS =>
  j_X9_finesFor_251 n th_33 r_1 r_10)) else (
  j_X9_finesFor_251 n th_31 r_1 r_10))))))))))))))))))))))))))))))))))))))))))))))
set_option maxHeartbeats 4000000 in
set_option maxRecDepth 100000 in
theorem c_X9_finesFor (n : Nat) (l : Launch) (k : KT) (a_th : Nat → Nat) (th_0 : OS) (v1_0 : Int32) (res : (OS)) (hf : f_X9_finesFor n th_0 v1_0 = some res) : CG l k yX9_finesFor cX9_finesFor 7 none 1 0 0 23 [.ref (a_th 0), .int v1_0] (wModel k a_th th_0) (Qv k (fun u : OS => wModel k a_th u) (fun u : OS => res = u)) := by
  refine CG.ofV (by decide) (Nat.le_of_ble_eq_true rfl) (fun p e s m args below meth c A Q E hnm hW hA hret ls hl => ?_)
  have hl : lv_has ls 7 [(0, .ref (a_th 0)), (1, .int v1_0)] := hl
  unfold f_X9_finesFor at hf
  refine k_aload_n E hl 0 dX9_finesFor_0 rfl ?_
  refine k_iload_n E hl 1 dX9_finesFor_1 rfl ?_
  refine lv_iconst (v := (0 : Int32)) E.hx E.hb dX9_finesFor_2 ic_0 ?_
  obtain ⟨r_1, hg, hf⟩ := ob hf
  refine k_callVi (As := [.int v1_0, .int (0 : Int32)]) (rest := []) (ws2 := fun u => wModel k a_th th_0) (c_X9_loan0 n l k a_th th_0 v1_0 (0 : Int32) r_1 hg) E vl_X9_106 dX9_finesFor_3 rfl [0, 1, 2, 3, 4, 5, 6, 7, 8, 9, 10, 11, 12] 7 0 hW hA hl rfl rfl rfl rfl ⟨by decide, by decide⟩ ⟨by decide, by decide⟩ (Nat.le_of_ble_eq_true rfl) rfl (fun _ => rfl) (fun _ => rfl) (fun r u H locs hp hW => ?_)
  cases hp
  have hW : WD k A s.heap (wModel k a_th th_0) H locs := hW
  refine k_istore_n (lv' := [(2, .int r_1), (0, .ref (a_th 0)), (1, .int v1_0)]) E rfl hl dX9_finesFor_6 rfl (by decide) rfl (fun ls hl => ?_)
  refine k_aload_n E hl 1 dX9_finesFor_7 rfl ?_
  refine k_iload_n E hl 2 dX9_finesFor_8 rfl ?_
  refine lv_iconst (v := (1 : Int32)) E.hx E.hb dX9_finesFor_9 ic_1 ?_
  obtain ⟨r_2, hg, hf⟩ := ob hf
  refine k_callVi (As := [.int v1_0, .int (1 : Int32)]) (rest := []) (ws2 := fun u => wModel k a_th th_0) (c_X9_loan0 n l k a_th th_0 v1_0 (1 : Int32) r_2 hg) E vl_X9_106 dX9_finesFor_10 rfl [0, 1, 2, 3, 4, 5, 6, 7, 8, 9, 10, 11, 12] 7 0 hW hA hl rfl rfl rfl rfl ⟨by decide, by decide⟩ ⟨by decide, by decide⟩ (Nat.le_of_ble_eq_true rfl) rfl (fun _ => rfl) (fun _ => rfl) (fun r u H locs hp hW => ?_)
  cases hp
  have hW : WD k A s.heap (wModel k a_th th_0) H locs := hW
  refine k_aload_n E hl 1 dX9_finesFor_13 rfl ?_
  refine gf_X9_13 E hW 0 rfl rfl dX9_finesFor_14 ?_
  refine lv_iconst (v := (3 : Int32)) E.hx E.hb dX9_finesFor_17 ic_3 ?_
  obtain ⟨hin, hf⟩ := oI hf
  obtain ⟨x_3, ex_3, hf⟩ := oL hf
  refine k_iald E hW 2 rfl hin dX9_finesFor_18 ?_
  refine k_topi ex_3 ?_
  obtain ⟨r_4, hg, hf⟩ := ob hf
  refine k_callSi (As := [.int r_2, .int x_3]) (rest := []) (ws2 := fun u => wModel k a_th th_0) (c_X9_greater n l k r_2 x_3 r_4 hg) E sl_X9_96 dX9_finesFor_19 rfl [] hW hA hl rfl rfl ⟨by decide, by decide⟩ ⟨by decide, by decide⟩ (Nat.le_of_ble_eq_true rfl) rfl (fun _ => rfl) (fun _ => rfl) (fun r u H locs hp hW => ?_)
  cases hp
  have hW : WD k A s.heap (wModel k a_th th_0) H locs := hW
  refine k_istore_n (lv' := [(3, .int r_4), (2, .int r_1), (0, .ref (a_th 0)), (1, .int v1_0)]) E rfl hl dX9_finesFor_22 rfl (by decide) rfl (fun ls hl => ?_)
  refine k_aload_n E hl 2 dX9_finesFor_23 rfl ?_
  refine gf_X9_13 E hW 0 rfl rfl dX9_finesFor_24 ?_
  refine lv_iconst (v := (0 : Int32)) E.hx E.hb dX9_finesFor_27 ic_0 ?_
  obtain ⟨hin, hf⟩ := oI hf
  obtain ⟨x_5, ex_5, hf⟩ := oL hf
  refine k_iald E hW 2 rfl hin dX9_finesFor_28 ?_
  refine k_topi ex_5 ?_
  refine k_iload_n E hl 0 dX9_finesFor_29 rfl ?_
  refine lv_isub E.hx E.hb dX9_finesFor_30 ?_
  refine k_aload_n E hl 2 dX9_finesFor_31 rfl ?_
  refine k_iload_n E hl 3 dX9_finesFor_32 rfl ?_
  obtain ⟨r_6, hg, hf⟩ := ob hf
  refine k_callVi (As := [.int v1_0]) (rest := [.int (x_5 - r_4)]) (ws2 := fun u => wModel k a_th th_0) (c_X9_pagesOf n l k a_th th_0 v1_0 r_6 hg) E vl_X9_103 dX9_finesFor_33 rfl [0, 1, 2, 3, 4, 5, 6, 7, 8, 9, 10, 11, 12] 7 0 hW hA hl rfl rfl rfl rfl ⟨by decide, by decide⟩ ⟨by decide, by decide⟩ (Nat.le_of_ble_eq_true rfl) rfl (fun _ => rfl) (fun _ => rfl) (fun r u H locs hp hW => ?_)
  cases hp
  have hW : WD k A s.heap (wModel k a_th th_0) H locs := hW
  refine lv_imul E.hx E.hb dX9_finesFor_36 ?_
  obtain ⟨v4_7, ev4_7, hf⟩ := oL hf
  refine k_istore (lv' := [(4, .int v4_7), (3, .int r_4), (2, .int r_1), (0, .ref (a_th 0)), (1, .int v1_0)]) E ev4_7 hl dX9_finesFor_37 (by decide) rfl (fun ls hl => ?_)
  refine lv_sipush (v := (200 : Int32)) E.hx E.hb dX9_finesFor_39 sp_200 ?_
  refine k_iload E hl 0 dX9_finesFor_42 rfl ?_
  refine k_aload_n E hl 3 dX9_finesFor_44 rfl ?_
  refine gf_X9_117 E hW 0 rfl rfl dX9_finesFor_45 ?_
  refine k_aload_n E hl 3 dX9_finesFor_48 rfl ?_
  refine k_iload_n E hl 2 dX9_finesFor_49 rfl ?_
  refine lv_iconst (v := (0 : Int32)) E.hx E.hb dX9_finesFor_50 ic_0 ?_
  obtain ⟨r_8, hg, hf⟩ := ob hf
  refine k_callVi (As := [.int r_1, .int (0 : Int32)]) (rest := [.int (th_0.1 4), .int v4_7, .int (200 : Int32)]) (ws2 := fun u => wModel k a_th th_0) (c_X9_process0 n l k a_th th_0 r_1 (0 : Int32) r_8 hg) E vl_X9_120 dX9_finesFor_51 rfl [0, 1, 2, 3, 4, 5, 6, 7, 8, 9, 10, 11, 12] 7 0 hW hA hl rfl rfl rfl rfl ⟨by decide, by decide⟩ ⟨by decide, by decide⟩ (Nat.le_of_ble_eq_true rfl) rfl (fun _ => rfl) (fun _ => rfl) (fun r u H locs hp hW => ?_)
  cases hp
  have hW : WD k A s.heap (wModel k a_th th_0) H locs := hW
  refine lv_iadd E.hx E.hb dX9_finesFor_54 ?_
  refine lv_imul E.hx E.hb dX9_finesFor_55 ?_
  refine lv_bipush (v := (100 : Int32)) E.hx E.hb dX9_finesFor_56 bp_100 ?_
  obtain ⟨r_9, hg, hf⟩ := ob hf
  refine k_callSi (As := [.int (v4_7 * ((th_0.1 4) + r_8)), .int (100 : Int32)]) (rest := [.int (200 : Int32)]) (ws2 := fun u => wModel k a_th th_0) (c_X9_upwards n l k (v4_7 * ((th_0.1 4) + r_8)) (100 : Int32) r_9 hg) E sl_X9_123 dX9_finesFor_58 rfl [] hW hA hl rfl rfl ⟨by decide, by decide⟩ ⟨by decide, by decide⟩ (Nat.le_of_ble_eq_true rfl) rfl (fun _ => rfl) (fun _ => rfl) (fun r u H locs hp hW => ?_)
  cases hp
  have hW : WD k A s.heap (wModel k a_th th_0) H locs := hW
  obtain ⟨r_10, hg, hf⟩ := ob hf
  refine k_callSi (As := [.int (200 : Int32), .int r_9]) (rest := []) (ws2 := fun u => wModel k a_th th_0) (c_X9_lesser n l k (200 : Int32) r_9 r_10 hg) E sl_X9_126 dX9_finesFor_61 rfl [] hW hA hl rfl rfl ⟨by decide, by decide⟩ ⟨by decide, by decide⟩ (Nat.le_of_ble_eq_true rfl) rfl (fun _ => rfl) (fun _ => rfl) (fun r u H locs hp hW => ?_)
  cases hp
  have hW : WD k A s.heap (wModel k a_th th_0) H locs := hW
  refine k_istore (lv' := [(5, .int r_10), (4, .int v4_7), (3, .int r_4), (2, .int r_1), (0, .ref (a_th 0)), (1, .int v1_0)]) E rfl hl dX9_finesFor_64 (by decide) rfl (fun ls hl => ?_)
  refine k_aload_n E hl 4 dX9_finesFor_66 rfl ?_
  refine k_iload_n E hl 3 dX9_finesFor_67 rfl ?_
  refine lv_iconst (v := (1 : Int32)) E.hx E.hb dX9_finesFor_68 ic_1 ?_
  refine lv_sipush (v := (999 : Int32)) E.hx E.hb dX9_finesFor_69 sp_999 ?_
  refine k_aload_n E hl 4 dX9_finesFor_72 rfl ?_
  refine k_iload_n E hl 3 dX9_finesFor_73 rfl ?_
  refine lv_iconst (v := (1 : Int32)) E.hx E.hb dX9_finesFor_74 ic_1 ?_
  obtain ⟨r_11, hg, hf⟩ := ob hf
  refine k_callVi (As := [.int r_1, .int (1 : Int32)]) (rest := [.int (999 : Int32), .int (1 : Int32), .int r_1, .ref (a_th 0)]) (ws2 := fun u => wModel k a_th th_0) (c_X9_process0 n l k a_th th_0 r_1 (1 : Int32) r_11 hg) E vl_X9_120 dX9_finesFor_75 rfl [0, 1, 2, 3, 4, 5, 6, 7, 8, 9, 10, 11, 12] 7 0 hW hA hl rfl rfl rfl rfl ⟨by decide, by decide⟩ ⟨by decide, by decide⟩ (Nat.le_of_ble_eq_true rfl) rfl (fun _ => rfl) (fun _ => rfl) (fun r u H locs hp hW => ?_)
  cases hp
  have hW : WD k A s.heap (wModel k a_th th_0) H locs := hW
  refine k_iload E hl 0 dX9_finesFor_78 rfl ?_
  refine lv_iadd E.hx E.hb dX9_finesFor_80 ?_
  obtain ⟨r_12, hg, hf⟩ := ob hf
  refine k_callSi (As := [.int (999 : Int32), .int (r_11 + r_10)]) (rest := [.int (1 : Int32), .int r_1, .ref (a_th 0)]) (ws2 := fun u => wModel k a_th th_0) (c_X9_lesser n l k (999 : Int32) (r_11 + r_10) r_12 hg) E sl_X9_126 dX9_finesFor_81 rfl [] hW hA hl rfl rfl ⟨by decide, by decide⟩ ⟨by decide, by decide⟩ (Nat.le_of_ble_eq_true rfl) rfl (fun _ => rfl) (fun _ => rfl) (fun r u H locs hp hW => ?_)
  cases hp
  have hW : WD k A s.heap (wModel k a_th th_0) H locs := hW
  obtain ⟨th_13, hg, hf⟩ := ob hf
  refine k_callVv (As := [.int r_1, .int (1 : Int32), .int r_12]) (rest := []) (ws2 := fun u => wModel k a_th (u)) (c_X9_sets n l k a_th th_0 r_1 (1 : Int32) r_12 th_13 hg) E vl_X9_129 dX9_finesFor_84 rfl [0, 1, 2, 3, 4, 5, 6, 7, 8, 9, 10, 11, 12] 7 0 hW hA hl rfl rfl rfl rfl ⟨by decide, by decide⟩ ⟨by decide, by decide⟩ (Nat.le_of_ble_eq_true rfl) rfl (fun _ => rfl) (fun _ => rfl) (fun u H locs hp hW => ?_)
  cases hp
  have hW : WD k A s.heap (wModel k a_th th_13) H locs := hW
  refine k_aload_n E hl 4 dX9_finesFor_87 rfl ?_
  refine k_iload_n E hl 3 dX9_finesFor_88 rfl ?_
  refine lv_iconst (v := (0 : Int32)) E.hx E.hb dX9_finesFor_89 ic_0 ?_
  refine lv_sipush (v := (999 : Int32)) E.hx E.hb dX9_finesFor_90 sp_999 ?_
  refine k_aload_n E hl 4 dX9_finesFor_93 rfl ?_
  refine k_iload_n E hl 3 dX9_finesFor_94 rfl ?_
  refine lv_iconst (v := (0 : Int32)) E.hx E.hb dX9_finesFor_95 ic_0 ?_
  obtain ⟨r_14, hg, hf⟩ := ob hf
  refine k_callVi (As := [.int r_1, .int (0 : Int32)]) (rest := [.int (999 : Int32), .int (0 : Int32), .int r_1, .ref (a_th 0)]) (ws2 := fun u => wModel k a_th th_13) (c_X9_process0 n l k a_th th_13 r_1 (0 : Int32) r_14 hg) E vl_X9_120 dX9_finesFor_96 rfl [0, 1, 2, 3, 4, 5, 6, 7, 8, 9, 10, 11, 12] 7 0 hW hA hl rfl rfl rfl rfl ⟨by decide, by decide⟩ ⟨by decide, by decide⟩ (Nat.le_of_ble_eq_true rfl) rfl (fun _ => rfl) (fun _ => rfl) (fun r u H locs hp hW => ?_)
  cases hp
  have hW : WD k A s.heap (wModel k a_th th_13) H locs := hW
  refine k_iload E hl 1 dX9_finesFor_99 rfl ?_
  refine lv_iadd E.hx E.hb dX9_finesFor_101 ?_
  obtain ⟨r_15, hg, hf⟩ := ob hf
  refine k_callSi (As := [.int (999 : Int32), .int (r_14 + v4_7)]) (rest := [.int (0 : Int32), .int r_1, .ref (a_th 0)]) (ws2 := fun u => wModel k a_th th_13) (c_X9_lesser n l k (999 : Int32) (r_14 + v4_7) r_15 hg) E sl_X9_126 dX9_finesFor_102 rfl [] hW hA hl rfl rfl ⟨by decide, by decide⟩ ⟨by decide, by decide⟩ (Nat.le_of_ble_eq_true rfl) rfl (fun _ => rfl) (fun _ => rfl) (fun r u H locs hp hW => ?_)
  cases hp
  have hW : WD k A s.heap (wModel k a_th th_13) H locs := hW
  obtain ⟨th_16, hg, hf⟩ := ob hf
  refine k_callVv (As := [.int r_1, .int (0 : Int32), .int r_15]) (rest := []) (ws2 := fun u => wModel k a_th (u)) (c_X9_sets n l k a_th th_13 r_1 (0 : Int32) r_15 th_16 hg) E vl_X9_129 dX9_finesFor_105 rfl [0, 1, 2, 3, 4, 5, 6, 7, 8, 9, 10, 11, 12] 7 0 hW hA hl rfl rfl rfl rfl ⟨by decide, by decide⟩ ⟨by decide, by decide⟩ (Nat.le_of_ble_eq_true rfl) rfl (fun _ => rfl) (fun _ => rfl) (fun u H locs hp hW => ?_)
  cases hp
  have hW : WD k A s.heap (wModel k a_th th_16) H locs := hW
  refine k_aload_n E hl 4 dX9_finesFor_108 rfl ?_
  refine k_iload_n E hl 3 dX9_finesFor_109 rfl ?_
  refine lv_iconst (v := (4 : Int32)) E.hx E.hb dX9_finesFor_110 ic_4 ?_
  refine k_aload_n E hl 4 dX9_finesFor_111 rfl ?_
  refine k_iload_n E hl 3 dX9_finesFor_112 rfl ?_
  refine lv_iconst (v := (4 : Int32)) E.hx E.hb dX9_finesFor_113 ic_4 ?_
  obtain ⟨r_17, hg, hf⟩ := ob hf
  refine k_callVi (As := [.int r_1, .int (4 : Int32)]) (rest := [.int (4 : Int32), .int r_1, .ref (a_th 0)]) (ws2 := fun u => wModel k a_th th_16) (c_X9_process0 n l k a_th th_16 r_1 (4 : Int32) r_17 hg) E vl_X9_120 dX9_finesFor_114 rfl [0, 1, 2, 3, 4, 5, 6, 7, 8, 9, 10, 11, 12] 7 0 hW hA hl rfl rfl rfl rfl ⟨by decide, by decide⟩ ⟨by decide, by decide⟩ (Nat.le_of_ble_eq_true rfl) rfl (fun _ => rfl) (fun _ => rfl) (fun r u H locs hp hW => ?_)
  cases hp
  have hW : WD k A s.heap (wModel k a_th th_16) H locs := hW
  refine lv_iconst (v := (1 : Int32)) E.hx E.hb dX9_finesFor_117 ic_1 ?_
  refine lv_iadd E.hx E.hb dX9_finesFor_118 ?_
  obtain ⟨th_18, hg, hf⟩ := ob hf
  refine k_callVv (As := [.int r_1, .int (4 : Int32), .int (r_17 + (1 : Int32))]) (rest := []) (ws2 := fun u => wModel k a_th (u)) (c_X9_sets n l k a_th th_16 r_1 (4 : Int32) (r_17 + (1 : Int32)) th_18 hg) E vl_X9_129 dX9_finesFor_119 rfl [0, 1, 2, 3, 4, 5, 6, 7, 8, 9, 10, 11, 12] 7 0 hW hA hl rfl rfl rfl rfl ⟨by decide, by decide⟩ ⟨by decide, by decide⟩ (Nat.le_of_ble_eq_true rfl) rfl (fun _ => rfl) (fun _ => rfl) (fun u H locs hp hW => ?_)
  cases hp
  have hW : WD k A s.heap (wModel k a_th th_18) H locs := hW
  refine k_aload_n E hl 4 dX9_finesFor_122 rfl ?_
  refine gf_X9_13 E hW 0 rfl rfl dX9_finesFor_123 ?_
  refine lv_iconst (v := (4 : Int32)) E.hx E.hb dX9_finesFor_126 ic_4 ?_
  obtain ⟨hin, hf⟩ := oI hf
  obtain ⟨x_19, ex_19, hf⟩ := oL hf
  refine k_iald E hW 2 rfl hin dX9_finesFor_127 ?_
  refine k_topi ex_19 ?_
  obtain ⟨r_20, hg, hf⟩ := ob hf
  refine k_callSi (As := [.int x_19]) (rest := []) (ws2 := fun u => wModel k a_th th_18) (c_X9_fineAt n l k x_19 r_20 hg) E sl_X9_85 dX9_finesFor_128 rfl [] hW hA hl rfl rfl ⟨by decide, by decide⟩ ⟨by decide, by decide⟩ (Nat.le_of_ble_eq_true rfl) rfl (fun _ => rfl) (fun _ => rfl) (fun r u H locs hp hW => ?_)
  cases hp
  have hW : WD k A s.heap (wModel k a_th th_18) H locs := hW
  refine k_istore (lv' := [(6, .int r_20), (5, .int r_10), (4, .int v4_7), (3, .int r_4), (2, .int r_1), (0, .ref (a_th 0)), (1, .int v1_0)]) E rfl hl dX9_finesFor_131 (by decide) rfl (fun ls hl => ?_)
  refine k_aload_n E hl 5 dX9_finesFor_133 rfl ?_
  refine gf_X9_13 E hW 0 rfl rfl dX9_finesFor_134 ?_
  refine k_iload E hl 0 dX9_finesFor_137 rfl ?_
  refine lv_iconst (v := (0 : Int32)) E.hx E.hb dX9_finesFor_139 ic_0 ?_
  refine lv_iadd E.hx E.hb dX9_finesFor_140 ?_
  refine k_iload_n E hl 4 dX9_finesFor_141 rfl ?_
  obtain ⟨hin, hf⟩ := oI hf
  obtain ⟨th_21, eth_21, hf⟩ := oL hf
  refine k_iast (ws2 := wModel k a_th th_21) E hW 2 rfl hin dX9_finesFor_142 (by rw [eth_21]; rfl) (fun H locs hW => ?_)
  refine k_aload_n E hl 5 dX9_finesFor_143 rfl ?_
  refine gf_X9_13 E hW 0 rfl rfl dX9_finesFor_144 ?_
  refine k_iload E hl 0 dX9_finesFor_147 rfl ?_
  refine lv_iconst (v := (1 : Int32)) E.hx E.hb dX9_finesFor_149 ic_1 ?_
  refine lv_iadd E.hx E.hb dX9_finesFor_150 ?_
  refine k_iload_n E hl 6 dX9_finesFor_151 rfl ?_
  obtain ⟨hin, hf⟩ := oI hf
  obtain ⟨th_22, eth_22, hf⟩ := oL hf
  refine k_iast (ws2 := wModel k a_th th_22) E hW 2 rfl hin dX9_finesFor_152 (by rw [eth_22]; rfl) (fun H locs hW => ?_)
  refine k_aload_n E hl 5 dX9_finesFor_153 rfl ?_
  refine gf_X9_13 E hW 0 rfl rfl dX9_finesFor_154 ?_
  refine k_iload E hl 0 dX9_finesFor_157 rfl ?_
  refine lv_iconst (v := (2 : Int32)) E.hx E.hb dX9_finesFor_159 ic_2 ?_
  refine lv_iadd E.hx E.hb dX9_finesFor_160 ?_
  refine k_iload E hl 2 dX9_finesFor_161 rfl ?_
  obtain ⟨hin, hf⟩ := oI hf
  obtain ⟨th_23, eth_23, hf⟩ := oL hf
  refine k_iast (ws2 := wModel k a_th th_23) E hW 2 rfl hin dX9_finesFor_163 (by rw [eth_23]; rfl) (fun H locs hW => ?_)
  refine k_aload_n E hl 5 dX9_finesFor_164 rfl ?_
  refine gf_X9_13 E hW 0 rfl rfl dX9_finesFor_165 ?_
  refine k_iload E hl 0 dX9_finesFor_168 rfl ?_
  refine lv_iconst (v := (3 : Int32)) E.hx E.hb dX9_finesFor_170 ic_3 ?_
  refine lv_iadd E.hx E.hb dX9_finesFor_171 ?_
  refine k_iload_n E hl 3 dX9_finesFor_172 rfl ?_
  obtain ⟨hin, hf⟩ := oI hf
  obtain ⟨th_24, eth_24, hf⟩ := oL hf
  refine k_iast (ws2 := wModel k a_th th_24) E hW 2 rfl hin dX9_finesFor_173 (by rw [eth_24]; rfl) (fun H locs hW => ?_)
  refine k_aload_n E hl 5 dX9_finesFor_174 rfl ?_
  refine gf_X9_13 E hW 0 rfl rfl dX9_finesFor_175 ?_
  refine k_iload E hl 0 dX9_finesFor_178 rfl ?_
  refine lv_iconst (v := (4 : Int32)) E.hx E.hb dX9_finesFor_180 ic_4 ?_
  refine lv_iadd E.hx E.hb dX9_finesFor_181 ?_
  refine k_aload_n E hl 5 dX9_finesFor_182 rfl ?_
  refine gf_X9_13 E hW 0 rfl rfl dX9_finesFor_183 ?_
  refine lv_iconst (v := (0 : Int32)) E.hx E.hb dX9_finesFor_186 ic_0 ?_
  obtain ⟨hin, hf⟩ := oI hf
  obtain ⟨x_25, ex_25, hf⟩ := oL hf
  refine k_iald E hW 2 rfl hin dX9_finesFor_187 ?_
  refine k_topi ex_25 ?_
  obtain ⟨hin, hf⟩ := oI hf
  obtain ⟨th_26, eth_26, hf⟩ := oL hf
  refine k_iast (ws2 := wModel k a_th th_26) E hW 2 rfl hin dX9_finesFor_188 (by rw [eth_26]; rfl) (fun H locs hW => ?_)
  refine k_aload_n E hl 5 dX9_finesFor_189 rfl ?_
  refine gf_X9_13 E hW 0 rfl rfl dX9_finesFor_190 ?_
  refine k_iload E hl 0 dX9_finesFor_193 rfl ?_
  refine lv_iconst (v := (5 : Int32)) E.hx E.hb dX9_finesFor_195 ic_5 ?_
  refine lv_iadd E.hx E.hb dX9_finesFor_196 ?_
  refine k_iload E hl 1 dX9_finesFor_197 rfl ?_
  obtain ⟨hin, hf⟩ := oI hf
  obtain ⟨th_27, eth_27, hf⟩ := oL hf
  refine k_iast (ws2 := wModel k a_th th_27) E hW 2 rfl hin dX9_finesFor_199 (by rw [eth_27]; rfl) (fun H locs hW => ?_)
  refine k_aload_n E hl 5 dX9_finesFor_200 rfl ?_
  refine gf_X9_13 E hW 0 rfl rfl dX9_finesFor_201 ?_
  refine k_iload E hl 0 dX9_finesFor_204 rfl ?_
  refine lv_bipush (v := (6 : Int32)) E.hx E.hb dX9_finesFor_206 bp_6 ?_
  refine lv_iadd E.hx E.hb dX9_finesFor_208 ?_
  refine lv_iconst (v := (0 : Int32)) E.hx E.hb dX9_finesFor_209 ic_0 ?_
  obtain ⟨hin, hf⟩ := oI hf
  obtain ⟨th_28, eth_28, hf⟩ := oL hf
  refine k_iast (ws2 := wModel k a_th th_28) E hW 2 rfl hin dX9_finesFor_210 (by rw [eth_28]; rfl) (fun H locs hW => ?_)
  refine k_aload_n E hl 5 dX9_finesFor_211 rfl ?_
  refine gf_X9_13 E hW 0 rfl rfl dX9_finesFor_212 ?_
  refine k_iload E hl 0 dX9_finesFor_215 rfl ?_
  refine lv_bipush (v := (7 : Int32)) E.hx E.hb dX9_finesFor_217 bp_7 ?_
  refine lv_iadd E.hx E.hb dX9_finesFor_219 ?_
  refine k_iload E hl 1 dX9_finesFor_220 rfl ?_
  obtain ⟨hin, hf⟩ := oI hf
  obtain ⟨th_29, eth_29, hf⟩ := oL hf
  refine k_iast (ws2 := wModel k a_th th_29) E hW 2 rfl hin dX9_finesFor_222 (by rw [eth_29]; rfl) (fun H locs hW => ?_)
  refine k_aload_n E hl 5 dX9_finesFor_223 rfl ?_
  refine gf_X9_13 E hW 0 rfl rfl dX9_finesFor_224 ?_
  refine lv_iconst (v := (4 : Int32)) E.hx E.hb dX9_finesFor_227 ic_4 ?_
  refine k_aload_n E hl 5 dX9_finesFor_228 rfl ?_
  refine gf_X9_13 E hW 0 rfl rfl dX9_finesFor_229 ?_
  refine lv_iconst (v := (4 : Int32)) E.hx E.hb dX9_finesFor_232 ic_4 ?_
  obtain ⟨hin, hf⟩ := oI hf
  obtain ⟨x_30, ex_30, hf⟩ := oL hf
  refine k_iald E hW 2 rfl hin dX9_finesFor_233 ?_
  refine k_topi ex_30 ?_
  refine lv_iconst (v := (1 : Int32)) E.hx E.hb dX9_finesFor_234 ic_1 ?_
  refine lv_iadd E.hx E.hb dX9_finesFor_235 ?_
  obtain ⟨hin, hf⟩ := oI hf
  obtain ⟨th_31, eth_31, hf⟩ := oL hf
  refine k_iast (ws2 := wModel k a_th th_31) E hW 2 rfl hin dX9_finesFor_236 (by rw [eth_31]; rfl) (fun H locs hW => ?_)
  refine k_iload_n E hl 6 dX9_finesFor_237 rfl ?_
  refine k_aload_n E hl 5 dX9_finesFor_238 rfl ?_
  refine gf_X9_32 E hW 0 rfl rfl dX9_finesFor_239 ?_
  have J_251 : ∀ (th_j251 : OS) (w2_j251 : Int32) (w5_j251 : Int32) (H : Heap) (locs : List Loc) (ls : Array Slot) (hW : WD k A s.heap (wModel k a_th th_j251) H locs) (hl : lv_has ls 7 [(0, .ref (a_th 0)), (2, .int w2_j251), (5, .int w5_j251)]) (hf : j_X9_finesFor_251 n  th_j251 w2_j251 w5_j251 = some res), W p l e { frames := 1, cells := 0, slots := 0, locals := 23 } s m args below meth c H locs 0 0 Q (F0 m 251 ls []) := by
    intro th_j251 w2_j251 w5_j251 H locs ls hW hl hf
    unfold j_X9_finesFor_251 at hf
    refine k_iload_n E hl 1 dX9_finesFor_251 rfl ?_
    refine k_aload_n E hl 0 dX9_finesFor_252 rfl ?_
    refine gf_X9_36 E hW 0 rfl rfl dX9_finesFor_253 ?_
    refine lv_icmp_ne (tgt := 270) E.hx E.hb dX9_finesFor_256 (by decide) (fun hc => ?_) (fun hc => ?_)
    · have hf := oF hc hf
      exact hret th_j251 _ _ _ _ _ _ hW (Option.some.inj hf).symm (by decide) (by decide) dX9_finesFor_270
    · have hf := oT hc hf
      refine k_aload_n E hl 0 dX9_finesFor_259 rfl ?_
      refine k_aload_n E hl 0 dX9_finesFor_260 rfl ?_
      refine gf_X9_136 E hW 0 rfl rfl dX9_finesFor_261 ?_
      refine k_iload E hl 2 dX9_finesFor_264 rfl ?_
      refine lv_iadd E.hx E.hb dX9_finesFor_266 ?_
      obtain ⟨th_32, eth_32, hf⟩ := oL hf
      refine pf_X9_136 (ws2 := wModel k a_th th_32) E hW 0 rfl rfl rfl (Nat.le_of_ble_eq_true rfl) dX9_finesFor_267 (by rw [eth_32]; rfl) (fun H locs hW => ?_)
      exact hret th_32 _ _ _ _ _ _ hW (Option.some.inj hf).symm (by decide) (by decide) dX9_finesFor_270
  refine lv_icmp_ne (tgt := 251) E.hx E.hb dX9_finesFor_242 (by decide) (fun hc => ?_) (fun hc => ?_)
  · have hf := oF hc hf
    exact J_251 th_31 r_1 r_10 _ _ _ hW (lv_sub hl [5, 4, 1] rfl) hf
  · have hf := oT hc hf
    refine k_aload_n E hl 5 dX9_finesFor_245 rfl ?_
    refine k_iload E hl 1 dX9_finesFor_246 rfl ?_
    obtain ⟨th_33, eth_33, hf⟩ := oL hf
    refine pf_X9_133 (ws2 := wModel k a_th th_33) E hW 0 rfl rfl rfl (Nat.le_of_ble_eq_true rfl) dX9_finesFor_248 (by rw [eth_33]; rfl) (fun H locs hW => ?_)
    exact J_251 th_33 r_1 r_10 _ _ _ hW (lv_sub hl [5, 4, 1] rfl) hf
def s_X9_finesAll_2 (n : Nat) (rc_2 : (OS) → (Int32) → Option (OS)) (th_j2 : OS) (w1_j2 : Int32) : Option (OS) :=
  gI 1846 (6 : Int32) (Let ((th_j2.2.1 9) (6 : Int32).toNatClampNeg) (fun x_1 : Int32 =>
  if x_1 ≤ w1_j2 then (
  some th_j2) else (
  bnd (f_X9_isBrokenLoan n th_j2 w1_j2) (fun (r_2 : Int32) =>
  if r_2 = 0 then (
  Let (w1_j2 + (1 : Int32)) (fun v1_3 : Int32 =>
  rc_2 th_j2 v1_3)) else (
  bnd (f_X9_finesFor n th_j2 w1_j2) (fun (th_4 : OS) =>
  Let (w1_j2 + (1 : Int32)) (fun v1_5 : Int32 =>
  rc_2 th_4 v1_5)))))))
def l_X9_finesAll_2 (n : Nat) : Nat → (OS) → (Int32) → Option (OS)
  | 0 => fun _ _ => none
  | N + 1 => s_X9_finesAll_2 n (l_X9_finesAll_2 n N)
def f_X9_finesAll (n : Nat) (th_0 : OS) : Option (OS) :=
  l_X9_finesAll_2 n n th_0 (0 : Int32)
set_option maxHeartbeats 4000000 in
set_option maxRecDepth 100000 in
theorem c_X9_finesAll (n : Nat) (l : Launch) (k : KT) (a_th : Nat → Nat) (th_0 : OS) (res : (OS)) (hf : f_X9_finesAll n th_0 = some res) : CG l k yX9_finesAll cX9_finesAll 2 none 2 0 0 49 [.ref (a_th 0)] (wModel k a_th th_0) (Qv k (fun u : OS => wModel k a_th u) (fun u : OS => res = u)) := by
  refine CG.ofV (by decide) (Nat.le_of_ble_eq_true rfl) (fun p e s m args below meth c A Q E hnm hW hA hret ls hl => ?_)
  have hl : lv_has ls 2 [(0, .ref (a_th 0))] := hl
  unfold f_X9_finesAll at hf
  refine lv_iconst (v := (0 : Int32)) E.hx E.hb dX9_finesAll_0 ic_0 ?_
  refine k_istore_n (lv' := [(1, .int (0 : Int32)), (0, .ref (a_th 0))]) E rfl hl dX9_finesAll_1 rfl (by decide) rfl (fun ls hl => ?_)
  have L_2 : ∀ (N_2 : Nat) (th_j2 : OS) (w1_j2 : Int32) (H : Heap) (locs : List Loc) (ls : Array Slot) (hW : WD k A s.heap (wModel k a_th th_j2) H locs) (hl : lv_has ls 2 [(0, .ref (a_th 0)), (1, .int w1_j2)]) (hf : l_X9_finesAll_2 n N_2 th_j2 w1_j2 = some res), W p l e { frames := 2, cells := 0, slots := 0, locals := 49 } s m args below meth c H locs 0 0 Q (F0 m 2 ls []) := by
    intro N_2
    induction N_2 with
    | zero => intro th_j2 w1_j2 H locs ls hW hl hf; exact o0 hf
    | succ N_2 ih_2 =>
      intro th_j2 w1_j2 H locs ls hW hl hf
      have hf : s_X9_finesAll_2 n  (l_X9_finesAll_2 n N_2) th_j2 w1_j2 = some res := hf
      unfold s_X9_finesAll_2 at hf
      refine k_iload_n E hl 1 dX9_finesAll_2 rfl ?_
      refine k_aload_n E hl 0 dX9_finesAll_3 rfl ?_
      refine gf_X9_13 E hW 0 rfl rfl dX9_finesAll_4 ?_
      refine lv_bipush (v := (6 : Int32)) E.hx E.hb dX9_finesAll_7 bp_6 ?_
      obtain ⟨hin, hf⟩ := oI hf
      obtain ⟨x_1, ex_1, hf⟩ := oL hf
      refine k_iald E hW 2 rfl hin dX9_finesAll_9 ?_
      refine k_topi ex_1 ?_
      refine lv_icmp_ge (tgt := 32) E.hx E.hb dX9_finesAll_10 (by decide) (fun hc => ?_) (fun hc => ?_)
      · have hf := oT hc hf
        exact hret th_j2 _ _ _ _ _ _ hW (Option.some.inj hf).symm (by decide) (by decide) dX9_finesAll_32
      · have hf := oF hc hf
        refine k_aload_n E hl 0 dX9_finesAll_13 rfl ?_
        refine k_iload_n E hl 1 dX9_finesAll_14 rfl ?_
        obtain ⟨r_2, hg, hf⟩ := ob hf
        refine k_callVi (As := [.int w1_j2]) (rest := []) (ws2 := fun u => wModel k a_th th_j2) (c_X9_isBrokenLoan n l k a_th th_j2 w1_j2 r_2 hg) E vl_X9_109 dX9_finesAll_15 rfl [0, 1, 2, 3, 4, 5, 6, 7, 8, 9, 10, 11, 12] 7 0 hW hA hl rfl rfl rfl rfl ⟨by decide, by decide⟩ ⟨by decide, by decide⟩ (Nat.le_of_ble_eq_true rfl) rfl (fun _ => rfl) (fun _ => rfl) (fun r u H locs hp hW => ?_)
        cases hp
        have hW : WD k A s.heap (wModel k a_th th_j2) H locs := hW
        refine lv_if_eq (tgt := 26) E.hx E.hb dX9_finesAll_18 (by decide) (fun hc => ?_) (fun hc => ?_)
        · have hf := oT hc hf
          obtain ⟨v1_3, ev1_3, hf⟩ := oL hf
          refine k_iinc (lv' := [(1, .int v1_3), (0, .ref (a_th 0))]) E hl 1 dX9_finesAll_26 rfl (ev1_3.trans (congrArg (fun z => w1_j2 + z) ic_1.symm)) (by decide) rfl (fun ls hl => ?_)
          refine lv_goto (tgt := 2) E.hx E.hb dX9_finesAll_29 (by decide) ?_
          exact ih_2 th_j2 v1_3 _ _ _ hW (lv_sub hl [1, 0] rfl) hf
        · have hf := oF hc hf
          refine k_aload_n E hl 0 dX9_finesAll_21 rfl ?_
          refine k_iload_n E hl 1 dX9_finesAll_22 rfl ?_
          obtain ⟨th_4, hg, hf⟩ := ob hf
          refine k_callVv (As := [.int w1_j2]) (rest := []) (ws2 := fun u => wModel k a_th (u)) (c_X9_finesFor n l k a_th th_j2 w1_j2 th_4 hg) E vl_X9_113 dX9_finesAll_23 rfl [0, 1, 2, 3, 4, 5, 6, 7, 8, 9, 10, 11, 12] 7 0 hW hA hl rfl rfl rfl rfl ⟨by decide, by decide⟩ ⟨by decide, by decide⟩ (Nat.le_of_ble_eq_true rfl) rfl (fun _ => rfl) (fun _ => rfl) (fun u H locs hp hW => ?_)
          cases hp
          have hW : WD k A s.heap (wModel k a_th th_4) H locs := hW
          obtain ⟨v1_5, ev1_5, hf⟩ := oL hf
          refine k_iinc (lv' := [(1, .int v1_5), (0, .ref (a_th 0))]) E hl 1 dX9_finesAll_26 rfl (ev1_5.trans (congrArg (fun z => w1_j2 + z) ic_1.symm)) (by decide) rfl (fun ls hl => ?_)
          refine lv_goto (tgt := 2) E.hx E.hb dX9_finesAll_29 (by decide) ?_
          exact ih_2 th_4 v1_5 _ _ _ hW (lv_sub hl [1, 0] rfl) hf
  exact L_2 n th_0 (0 : Int32) _ _ _ hW (lv_sub hl [1, 0] rfl) hf
def f_X9_rankOf (n : Nat) (th_0 : OS) (v1_0 : Int32) : Option (Int32) :=
  gI 1846 (1 : Int32) (Let ((th_0.2.1 9) (1 : Int32).toNatClampNeg) (fun x_1 : Int32 =>
  if x_1 = (1 : Int32) then (
  bnd (f_X9_claim0 n th_0 v1_0 (1 : Int32)) (fun (r_4 : Int32) =>
  some r_4)) else (
  if x_1 = (2 : Int32) then (
  bnd (f_X9_claim0 n th_0 v1_0 (0 : Int32)) (fun (r_2 : Int32) =>
  bnd (f_X9_process0 n th_0 r_2 (0 : Int32)) (fun (r_3 : Int32) =>
  some r_3))) else (
  some (0 : Int32)))))
set_option maxHeartbeats 4000000 in
set_option maxRecDepth 100000 in
theorem c_X9_rankOf (n : Nat) (l : Launch) (k : KT) (a_th : Nat → Nat) (th_0 : OS) (v1_0 : Int32) (res : (Int32)) (hf : f_X9_rankOf n th_0 v1_0 = some res) : CG l k yX9_rankOf cX9_rankOf 3 (some .int) 1 0 0 22 [.ref (a_th 0), .int v1_0] (wModel k a_th th_0) (Qi k (fun u : Unit => wModel k a_th th_0) (fun (r : Int32) (u : Unit) => res = r)) := by
  refine CG.ofI (by decide) (Nat.le_of_ble_eq_true rfl) (fun p e s m args below meth c A Q E hnm hW hA hret ls hl => ?_)
  have hl : lv_has ls 3 [(0, .ref (a_th 0)), (1, .int v1_0)] := hl
  unfold f_X9_rankOf at hf
  refine k_aload_n E hl 0 dX9_rankOf_0 rfl ?_
  refine gf_X9_13 E hW 0 rfl rfl dX9_rankOf_1 ?_
  refine lv_iconst (v := (1 : Int32)) E.hx E.hb dX9_rankOf_4 ic_1 ?_
  obtain ⟨hin, hf⟩ := oI hf
  obtain ⟨x_1, ex_1, hf⟩ := oL hf
  refine k_iald E hW 2 rfl hin dX9_rankOf_5 ?_
  refine k_topi ex_1 ?_
  refine k_istore_n (lv' := [(2, .int x_1), (0, .ref (a_th 0)), (1, .int v1_0)]) E rfl hl dX9_rankOf_6 rfl (by decide) rfl (fun ls hl => ?_)
  refine k_iload_n E hl 0 dX9_rankOf_7 rfl ?_
  refine lv_iconst (v := (1 : Int32)) E.hx E.hb dX9_rankOf_8 ic_1 ?_
  refine lv_icmp_ne (tgt := 21) E.hx E.hb dX9_rankOf_9 (by decide) (fun hc => ?_) (fun hc => ?_)
  · have hf := oF hc hf
    refine k_iload_n E hl 0 dX9_rankOf_21 rfl ?_
    refine lv_iconst (v := (2 : Int32)) E.hx E.hb dX9_rankOf_22 ic_2 ?_
    refine lv_icmp_ne (tgt := 40) E.hx E.hb dX9_rankOf_23 (by decide) (fun hc => ?_) (fun hc => ?_)
    · have hf := oF hc hf
      refine lv_iconst (v := (0 : Int32)) E.hx E.hb dX9_rankOf_40 ic_0 ?_
      exact hret _ () _ _ _ _ _ _ hW (Option.some.inj hf).symm rfl (by decide) (by decide) dX9_rankOf_41
    · have hf := oT hc hf
      refine k_aload_n E hl 1 dX9_rankOf_26 rfl ?_
      refine k_aload_n E hl 1 dX9_rankOf_27 rfl ?_
      refine k_iload_n E hl 2 dX9_rankOf_28 rfl ?_
      refine lv_iconst (v := (0 : Int32)) E.hx E.hb dX9_rankOf_29 ic_0 ?_
      obtain ⟨r_2, hg, hf⟩ := ob hf
      refine k_callVi (As := [.int v1_0, .int (0 : Int32)]) (rest := [.ref (a_th 0)]) (ws2 := fun u => wModel k a_th th_0) (c_X9_claim0 n l k a_th th_0 v1_0 (0 : Int32) r_2 hg) E vl_X9_139 dX9_rankOf_30 rfl [0, 1, 2, 3, 4, 5, 6, 7, 8, 9, 10, 11, 12] 7 0 hW hA hl rfl rfl rfl rfl ⟨by decide, by decide⟩ ⟨by decide, by decide⟩ (Nat.le_of_ble_eq_true rfl) rfl (fun _ => rfl) (fun _ => rfl) (fun r u H locs hp hW => ?_)
      cases hp
      have hW : WD k A s.heap (wModel k a_th th_0) H locs := hW
      refine lv_iconst (v := (0 : Int32)) E.hx E.hb dX9_rankOf_33 ic_0 ?_
      obtain ⟨r_3, hg, hf⟩ := ob hf
      refine k_callVi (As := [.int r_2, .int (0 : Int32)]) (rest := []) (ws2 := fun u => wModel k a_th th_0) (c_X9_process0 n l k a_th th_0 r_2 (0 : Int32) r_3 hg) E vl_X9_120 dX9_rankOf_34 rfl [0, 1, 2, 3, 4, 5, 6, 7, 8, 9, 10, 11, 12] 7 0 hW hA hl rfl rfl rfl rfl ⟨by decide, by decide⟩ ⟨by decide, by decide⟩ (Nat.le_of_ble_eq_true rfl) rfl (fun _ => rfl) (fun _ => rfl) (fun r u H locs hp hW => ?_)
      cases hp
      have hW : WD k A s.heap (wModel k a_th th_0) H locs := hW
      refine lv_goto (tgt := 41) E.hx E.hb dX9_rankOf_37 (by decide) ?_
      exact hret _ () _ _ _ _ _ _ hW (Option.some.inj hf).symm rfl (by decide) (by decide) dX9_rankOf_41
  · have hf := oT hc hf
    refine k_aload_n E hl 1 dX9_rankOf_12 rfl ?_
    refine k_iload_n E hl 2 dX9_rankOf_13 rfl ?_
    refine lv_iconst (v := (1 : Int32)) E.hx E.hb dX9_rankOf_14 ic_1 ?_
    obtain ⟨r_4, hg, hf⟩ := ob hf
    refine k_callVi (As := [.int v1_0, .int (1 : Int32)]) (rest := []) (ws2 := fun u => wModel k a_th th_0) (c_X9_claim0 n l k a_th th_0 v1_0 (1 : Int32) r_4 hg) E vl_X9_139 dX9_rankOf_15 rfl [0, 1, 2, 3, 4, 5, 6, 7, 8, 9, 10, 11, 12] 7 0 hW hA hl rfl rfl rfl rfl ⟨by decide, by decide⟩ ⟨by decide, by decide⟩ (Nat.le_of_ble_eq_true rfl) rfl (fun _ => rfl) (fun _ => rfl) (fun r u H locs hp hW => ?_)
    cases hp
    have hW : WD k A s.heap (wModel k a_th th_0) H locs := hW
    refine lv_goto (tgt := 41) E.hx E.hb dX9_rankOf_18 (by decide) ?_
    exact hret _ () _ _ _ _ _ _ hW (Option.some.inj hf).symm rfl (by decide) (by decide) dX9_rankOf_41
def f_X9_doesWait (n : Nat) (th_0 : OS) (v1_0 : Int32) : Option (Int32) :=
  bnd (f_X9_claim0 n th_0 v1_0 (3 : Int32)) (fun (r_1 : Int32) =>
  if r_1 = 0 then (
  some (1 : Int32)) else (
  some (0 : Int32)))
set_option maxHeartbeats 4000000 in
set_option maxRecDepth 100000 in
theorem c_X9_doesWait (n : Nat) (l : Launch) (k : KT) (a_th : Nat → Nat) (th_0 : OS) (v1_0 : Int32) (res : (Int32)) (hf : f_X9_doesWait n th_0 v1_0 = some res) : CG l k yX9_doesWait cX9_doesWait 2 (some .boolean) 1 0 0 22 [.ref (a_th 0), .int v1_0] (wModel k a_th th_0) (Qi k (fun u : Unit => wModel k a_th th_0) (fun (r : Int32) (u : Unit) => res = r)) := by
  refine CG.ofI (by decide) (Nat.le_of_ble_eq_true rfl) (fun p e s m args below meth c A Q E hnm hW hA hret ls hl => ?_)
  have hl : lv_has ls 2 [(0, .ref (a_th 0)), (1, .int v1_0)] := hl
  unfold f_X9_doesWait at hf
  refine k_aload_n E hl 0 dX9_doesWait_0 rfl ?_
  refine k_iload_n E hl 1 dX9_doesWait_1 rfl ?_
  refine lv_iconst (v := (3 : Int32)) E.hx E.hb dX9_doesWait_2 ic_3 ?_
  obtain ⟨r_1, hg, hf⟩ := ob hf
  refine k_callVi (As := [.int v1_0, .int (3 : Int32)]) (rest := []) (ws2 := fun u => wModel k a_th th_0) (c_X9_claim0 n l k a_th th_0 v1_0 (3 : Int32) r_1 hg) E vl_X9_139 dX9_doesWait_3 rfl [0, 1, 2, 3, 4, 5, 6, 7, 8, 9, 10, 11, 12] 7 0 hW hA hl rfl rfl rfl rfl ⟨by decide, by decide⟩ ⟨by decide, by decide⟩ (Nat.le_of_ble_eq_true rfl) rfl (fun _ => rfl) (fun _ => rfl) (fun r u H locs hp hW => ?_)
  cases hp
  have hW : WD k A s.heap (wModel k a_th th_0) H locs := hW
  refine lv_if_ne (tgt := 13) E.hx E.hb dX9_doesWait_6 (by decide) (fun hc => ?_) (fun hc => ?_)
  · have hf := oF hc hf
    refine lv_iconst (v := (0 : Int32)) E.hx E.hb dX9_doesWait_13 ic_0 ?_
    exact hret _ () _ _ _ _ _ _ hW (Option.some.inj hf).symm (by decide) (by decide) (by decide) dX9_doesWait_14
  · have hf := oT hc hf
    refine lv_iconst (v := (1 : Int32)) E.hx E.hb dX9_doesWait_9 ic_1 ?_
    refine lv_goto (tgt := 14) E.hx E.hb dX9_doesWait_10 (by decide) ?_
    exact hret _ () _ _ _ _ _ _ hW (Option.some.inj hf).symm (by decide) (by decide) (by decide) dX9_doesWait_14
def j_X9_lines_73 (n : Nat) (rc_4 : (OS) → (Int32) → (Int32) → Option (OS × Int32)) (th_j73 : OS) (w1_j73 : Int32) (w2_j73 : Int32) (w3_j73 : Int32) : Option (OS × Int32) :=
  gI 60 w3_j73 (Let (sA th_j73 21 (upd (th_j73.2.1 21) w3_j73.toNatClampNeg w2_j73)) (fun th_3 : OS =>
  Let (w1_j73 + (1 : Int32)) (fun v1_4 : Int32 =>
  Let (w2_j73 + (1 : Int32)) (fun v2_5 : Int32 =>
  rc_4 th_3 v1_4 v2_5))))
def s_X9_lines_28 (n : Nat) (w1_j28 : Int32) (w2_j28 : Int32) (rc_4 : (OS) → (Int32) → (Int32) → Option (OS × Int32)) (rc_28 : (OS) → (Int32) → Option (OS × Int32)) (th_j28 : OS) (w3_j28 : Int32) : Option (OS × Int32) :=
  if w3_j28 ≤ 0 then (
  j_X9_lines_73 n rc_4 th_j28 w1_j28 w2_j28 w3_j28) else (
  gI 60 (w3_j28 - (1 : Int32)) (Let ((th_j28.2.1 21) (w3_j28 - (1 : Int32)).toNatClampNeg) (fun x_6 : Int32 =>
  bnd (f_X9_rankOf n th_j28 x_6) (fun (r_7 : Int32) =>
  bnd (f_X9_rankOf n th_j28 w2_j28) (fun (r_8 : Int32) =>
  if r_7 ≤ r_8 then (
  j_X9_lines_73 n rc_4 th_j28 w1_j28 w2_j28 w3_j28) else (
  gI 60 (w3_j28 - (1 : Int32)) (Let ((th_j28.2.1 21) (w3_j28 - (1 : Int32)).toNatClampNeg) (fun x_9 : Int32 =>
  gI 60 w3_j28 (Let (sA th_j28 21 (upd (th_j28.2.1 21) w3_j28.toNatClampNeg x_9)) (fun th_10 : OS =>
  Let (w3_j28 - (1 : Int32)) (fun v3_11 : Int32 =>
  rc_28 th_10 v3_11)))))))))))
def l_X9_lines_28 (n : Nat) (w1_j28 : Int32) (w2_j28 : Int32) (rc_4 : (OS) → (Int32) → (Int32) → Option (OS × Int32)) : Nat → (OS) → (Int32) → Option (OS × Int32)
  | 0 => fun _ _ => none
  | N + 1 => s_X9_lines_28 n w1_j28 w2_j28 rc_4 (l_X9_lines_28 n w1_j28 w2_j28 rc_4 N)
def s_X9_lines_4 (n : Nat) (rc_4 : (OS) → (Int32) → (Int32) → Option (OS × Int32)) (th_j4 : OS) (w1_j4 : Int32) (w2_j4 : Int32) : Option (OS × Int32) :=
  gI 1846 (7 : Int32) (Let ((th_j4.2.1 9) (7 : Int32).toNatClampNeg) (fun x_1 : Int32 =>
  if x_1 ≤ w2_j4 then (
  some (th_j4, w1_j4)) else (
  bnd (f_X9_doesWait n th_j4 w2_j4) (fun (r_2 : Int32) =>
  if r_2 = 0 then (
  Let (w2_j4 + (1 : Int32)) (fun v2_12 : Int32 =>
  rc_4 th_j4 w1_j4 v2_12)) else (
  l_X9_lines_28 n w1_j4 w2_j4 rc_4 n th_j4 w1_j4)))))
def l_X9_lines_4 (n : Nat) : Nat → (OS) → (Int32) → (Int32) → Option (OS × Int32)
  | 0 => fun _ _ _ => none
  | N + 1 => s_X9_lines_4 n (l_X9_lines_4 n N)
def f_X9_lines (n : Nat) (th_0 : OS) : Option (OS × Int32) :=
  l_X9_lines_4 n n th_0 (0 : Int32) (0 : Int32)
set_option maxHeartbeats 4000000 in
set_option maxRecDepth 100000 in
theorem c_X9_lines (n : Nat) (l : Launch) (k : KT) (a_th : Nat → Nat) (th_0 : OS) (res : (OS × Int32)) (hf : f_X9_lines n th_0 = some res) : CG l k yX9_lines cX9_lines 4 (some .int) 2 0 0 44 [.ref (a_th 0)] (wModel k a_th th_0) (Qi k (fun u : OS => wModel k a_th u) (fun (r : Int32) (u : OS) => res = (u, r))) := by
  refine CG.ofI (by decide) (Nat.le_of_ble_eq_true rfl) (fun p e s m args below meth c A Q E hnm hW hA hret ls hl => ?_)
  have hl : lv_has ls 4 [(0, .ref (a_th 0))] := hl
  unfold f_X9_lines at hf
  refine lv_iconst (v := (0 : Int32)) E.hx E.hb dX9_lines_0 ic_0 ?_
  refine k_istore_n (lv' := [(1, .int (0 : Int32)), (0, .ref (a_th 0))]) E rfl hl dX9_lines_1 rfl (by decide) rfl (fun ls hl => ?_)
  refine lv_iconst (v := (0 : Int32)) E.hx E.hb dX9_lines_2 ic_0 ?_
  refine k_istore_n (lv' := [(2, .int (0 : Int32)), (1, .int (0 : Int32)), (0, .ref (a_th 0))]) E rfl hl dX9_lines_3 rfl (by decide) rfl (fun ls hl => ?_)
  have L_4 : ∀ (N_4 : Nat) (th_j4 : OS) (w1_j4 : Int32) (w2_j4 : Int32) (H : Heap) (locs : List Loc) (ls : Array Slot) (hW : WD k A s.heap (wModel k a_th th_j4) H locs) (hl : lv_has ls 4 [(0, .ref (a_th 0)), (1, .int w1_j4), (2, .int w2_j4)]) (hf : l_X9_lines_4 n N_4 th_j4 w1_j4 w2_j4 = some res), W p l e { frames := 2, cells := 0, slots := 0, locals := 44 } s m args below meth c H locs 0 0 Q (F0 m 4 ls []) := by
    intro N_4
    induction N_4 with
    | zero => intro th_j4 w1_j4 w2_j4 H locs ls hW hl hf; exact o0 hf
    | succ N_4 ih_4 =>
      intro th_j4 w1_j4 w2_j4 H locs ls hW hl hf
      have hf : s_X9_lines_4 n  (l_X9_lines_4 n N_4) th_j4 w1_j4 w2_j4 = some res := hf
      unfold s_X9_lines_4 at hf
      refine k_iload_n E hl 2 dX9_lines_4 rfl ?_
      refine k_aload_n E hl 0 dX9_lines_5 rfl ?_
      refine gf_X9_13 E hW 0 rfl rfl dX9_lines_6 ?_
      refine lv_bipush (v := (7 : Int32)) E.hx E.hb dX9_lines_9 bp_7 ?_
      obtain ⟨hin, hf⟩ := oI hf
      obtain ⟨x_1, ex_1, hf⟩ := oL hf
      refine k_iald E hW 2 rfl hin dX9_lines_11 ?_
      refine k_topi ex_1 ?_
      refine lv_icmp_ge (tgt := 90) E.hx E.hb dX9_lines_12 (by decide) (fun hc => ?_) (fun hc => ?_)
      · have hf := oT hc hf
        refine k_iload_n E hl 1 dX9_lines_90 rfl ?_
        exact hret _ th_j4 _ _ _ _ _ _ hW (Option.some.inj hf).symm rfl (by decide) (by decide) dX9_lines_91
      · have hf := oF hc hf
        refine k_aload_n E hl 0 dX9_lines_15 rfl ?_
        refine k_iload_n E hl 2 dX9_lines_16 rfl ?_
        obtain ⟨r_2, hg, hf⟩ := ob hf
        refine k_callVi (As := [.int w2_j4]) (rest := []) (ws2 := fun u => wModel k a_th th_j4) (c_X9_doesWait n l k a_th th_j4 w2_j4 r_2 hg) E vl_X9_142 dX9_lines_17 rfl [0, 1, 2, 3, 4, 5, 6, 7, 8, 9, 10, 11, 12] 7 0 hW hA hl rfl rfl rfl rfl ⟨by decide, by decide⟩ ⟨by decide, by decide⟩ (Nat.le_of_ble_eq_true rfl) rfl (fun _ => rfl) (fun _ => rfl) (fun r u H locs hp hW => ?_)
        cases hp
        have hW : WD k A s.heap (wModel k a_th th_j4) H locs := hW
        refine lv_if_ne (tgt := 26) E.hx E.hb dX9_lines_20 (by decide) (fun hc => ?_) (fun hc => ?_)
        · have hf := oF hc hf
          refine k_iload_n E hl 1 dX9_lines_26 rfl ?_
          refine k_istore_n (lv' := [(3, .int w1_j4), (0, .ref (a_th 0)), (1, .int w1_j4), (2, .int w2_j4)]) E rfl hl dX9_lines_27 rfl (by decide) rfl (fun ls hl => ?_)
          have L_28 : ∀ (N_28 : Nat) (th_j28 : OS) (w3_j28 : Int32) (H : Heap) (locs : List Loc) (ls : Array Slot) (hW : WD k A s.heap (wModel k a_th th_j28) H locs) (hl : lv_has ls 4 [(0, .ref (a_th 0)), (1, .int w1_j4), (2, .int w2_j4), (3, .int w3_j28)]) (hf : l_X9_lines_28 n w1_j4 w2_j4 (l_X9_lines_4 n N_4) N_28 th_j28 w3_j28 = some res), W p l e { frames := 2, cells := 0, slots := 0, locals := 44 } s m args below meth c H locs 0 0 Q (F0 m 28 ls []) := by
            intro N_28
            induction N_28 with
            | zero => intro th_j28 w3_j28 H locs ls hW hl hf; exact o0 hf
            | succ N_28 ih_28 =>
              intro th_j28 w3_j28 H locs ls hW hl hf
              have hf : s_X9_lines_28 n w1_j4 w2_j4 (l_X9_lines_4 n N_4) (l_X9_lines_28 n w1_j4 w2_j4 (l_X9_lines_4 n N_4) N_28) th_j28 w3_j28 = some res := hf
              unfold s_X9_lines_28 at hf
              refine k_iload_n E hl 3 dX9_lines_28 rfl ?_
              have J_73 : ∀ (th_j73 : OS) (w1_j73 : Int32) (w2_j73 : Int32) (w3_j73 : Int32) (H : Heap) (locs : List Loc) (ls : Array Slot) (hW : WD k A s.heap (wModel k a_th th_j73) H locs) (hl : lv_has ls 4 [(0, .ref (a_th 0)), (1, .int w1_j73), (2, .int w2_j73), (3, .int w3_j73)]) (hf : j_X9_lines_73 n (l_X9_lines_4 n N_4) th_j73 w1_j73 w2_j73 w3_j73 = some res), W p l e { frames := 2, cells := 0, slots := 0, locals := 44 } s m args below meth c H locs 0 0 Q (F0 m 73 ls []) := by
                intro th_j73 w1_j73 w2_j73 w3_j73 H locs ls hW hl hf
                unfold j_X9_lines_73 at hf
                refine k_aload_n E hl 0 dX9_lines_73 rfl ?_
                refine gf_X9_39 E hW 0 rfl rfl dX9_lines_74 ?_
                refine k_iload_n E hl 3 dX9_lines_77 rfl ?_
                refine k_iload_n E hl 2 dX9_lines_78 rfl ?_
                obtain ⟨hin, hf⟩ := oI hf
                obtain ⟨th_3, eth_3, hf⟩ := oL hf
                refine k_iast (ws2 := wModel k a_th th_3) E hW 8 rfl hin dX9_lines_79 (by rw [eth_3]; rfl) (fun H locs hW => ?_)
                refine k_iload_n E hl 1 dX9_lines_80 rfl ?_
                refine lv_iconst (v := (1 : Int32)) E.hx E.hb dX9_lines_81 ic_1 ?_
                refine lv_iadd E.hx E.hb dX9_lines_82 ?_
                obtain ⟨v1_4, ev1_4, hf⟩ := oL hf
                refine k_istore_n (lv' := [(1, .int v1_4), (0, .ref (a_th 0)), (2, .int w2_j73), (3, .int w3_j73)]) E ev1_4 hl dX9_lines_83 rfl (by decide) rfl (fun ls hl => ?_)
                obtain ⟨v2_5, ev2_5, hf⟩ := oL hf
                refine k_iinc (lv' := [(2, .int v2_5), (1, .int v1_4), (0, .ref (a_th 0)), (3, .int w3_j73)]) E hl 2 dX9_lines_84 rfl (ev2_5.trans (congrArg (fun z => w2_j73 + z) ic_1.symm)) (by decide) rfl (fun ls hl => ?_)
                refine lv_goto (tgt := 4) E.hx E.hb dX9_lines_87 (by decide) ?_
                exact ih_4 th_3 v1_4 v2_5 _ _ _ hW (lv_sub hl [2, 1, 0] rfl) hf
              refine lv_if_le (tgt := 73) E.hx E.hb dX9_lines_29 (by decide) (fun hc => ?_) (fun hc => ?_)
              · have hf := oT hc hf
                exact J_73 th_j28 w1_j4 w2_j4 w3_j28 _ _ _ hW (lv_sub hl [0, 1, 2, 3] rfl) hf
              · have hf := oF hc hf
                refine k_aload_n E hl 0 dX9_lines_32 rfl ?_
                refine k_aload_n E hl 0 dX9_lines_33 rfl ?_
                refine gf_X9_39 E hW 0 rfl rfl dX9_lines_34 ?_
                refine k_iload_n E hl 3 dX9_lines_37 rfl ?_
                refine lv_iconst (v := (1 : Int32)) E.hx E.hb dX9_lines_38 ic_1 ?_
                refine lv_isub E.hx E.hb dX9_lines_39 ?_
                obtain ⟨hin, hf⟩ := oI hf
                obtain ⟨x_6, ex_6, hf⟩ := oL hf
                refine k_iald E hW 8 rfl hin dX9_lines_40 ?_
                refine k_topi ex_6 ?_
                obtain ⟨r_7, hg, hf⟩ := ob hf
                refine k_callVi (As := [.int x_6]) (rest := []) (ws2 := fun u => wModel k a_th th_j28) (c_X9_rankOf n l k a_th th_j28 x_6 r_7 hg) E vl_X9_145 dX9_lines_41 rfl [0, 1, 2, 3, 4, 5, 6, 7, 8, 9, 10, 11, 12] 7 0 hW hA hl rfl rfl rfl rfl ⟨by decide, by decide⟩ ⟨by decide, by decide⟩ (Nat.le_of_ble_eq_true rfl) rfl (fun _ => rfl) (fun _ => rfl) (fun r u H locs hp hW => ?_)
                cases hp
                have hW : WD k A s.heap (wModel k a_th th_j28) H locs := hW
                refine k_aload_n E hl 0 dX9_lines_44 rfl ?_
                refine k_iload_n E hl 2 dX9_lines_45 rfl ?_
                obtain ⟨r_8, hg, hf⟩ := ob hf
                refine k_callVi (As := [.int w2_j4]) (rest := [.int r_7]) (ws2 := fun u => wModel k a_th th_j28) (c_X9_rankOf n l k a_th th_j28 w2_j4 r_8 hg) E vl_X9_145 dX9_lines_46 rfl [0, 1, 2, 3, 4, 5, 6, 7, 8, 9, 10, 11, 12] 7 0 hW hA hl rfl rfl rfl rfl ⟨by decide, by decide⟩ ⟨by decide, by decide⟩ (Nat.le_of_ble_eq_true rfl) rfl (fun _ => rfl) (fun _ => rfl) (fun r u H locs hp hW => ?_)
                cases hp
                have hW : WD k A s.heap (wModel k a_th th_j28) H locs := hW
                refine lv_icmp_le (tgt := 73) E.hx E.hb dX9_lines_49 (by decide) (fun hc => ?_) (fun hc => ?_)
                · have hf := oT hc hf
                  exact J_73 th_j28 w1_j4 w2_j4 w3_j28 _ _ _ hW (lv_sub hl [0, 1, 2, 3] rfl) hf
                · have hf := oF hc hf
                  refine k_aload_n E hl 0 dX9_lines_52 rfl ?_
                  refine gf_X9_39 E hW 0 rfl rfl dX9_lines_53 ?_
                  refine k_iload_n E hl 3 dX9_lines_56 rfl ?_
                  refine k_aload_n E hl 0 dX9_lines_57 rfl ?_
                  refine gf_X9_39 E hW 0 rfl rfl dX9_lines_58 ?_
                  refine k_iload_n E hl 3 dX9_lines_61 rfl ?_
                  refine lv_iconst (v := (1 : Int32)) E.hx E.hb dX9_lines_62 ic_1 ?_
                  refine lv_isub E.hx E.hb dX9_lines_63 ?_
                  obtain ⟨hin, hf⟩ := oI hf
                  obtain ⟨x_9, ex_9, hf⟩ := oL hf
                  refine k_iald E hW 8 rfl hin dX9_lines_64 ?_
                  refine k_topi ex_9 ?_
                  obtain ⟨hin, hf⟩ := oI hf
                  obtain ⟨th_10, eth_10, hf⟩ := oL hf
                  refine k_iast (ws2 := wModel k a_th th_10) E hW 8 rfl hin dX9_lines_65 (by rw [eth_10]; rfl) (fun H locs hW => ?_)
                  refine k_iload_n E hl 3 dX9_lines_66 rfl ?_
                  refine lv_iconst (v := (1 : Int32)) E.hx E.hb dX9_lines_67 ic_1 ?_
                  refine lv_isub E.hx E.hb dX9_lines_68 ?_
                  obtain ⟨v3_11, ev3_11, hf⟩ := oL hf
                  refine k_istore_n (lv' := [(3, .int v3_11), (0, .ref (a_th 0)), (1, .int w1_j4), (2, .int w2_j4)]) E ev3_11 hl dX9_lines_69 rfl (by decide) rfl (fun ls hl => ?_)
                  refine lv_goto (tgt := 28) E.hx E.hb dX9_lines_70 (by decide) ?_
                  exact ih_28 th_10 v3_11 _ _ _ hW (lv_sub hl [1, 2, 3, 0] rfl) hf
          exact L_28 n th_j4 w1_j4 _ _ _ hW (lv_sub hl [1, 2, 3, 0] rfl) hf
        · have hf := oT hc hf
          refine lv_goto (tgt := 84) E.hx E.hb dX9_lines_23 (by decide) ?_
          obtain ⟨v2_12, ev2_12, hf⟩ := oL hf
          refine k_iinc (lv' := [(2, .int v2_12), (0, .ref (a_th 0)), (1, .int w1_j4)]) E hl 2 dX9_lines_84 rfl (ev2_12.trans (congrArg (fun z => w2_j4 + z) ic_1.symm)) (by decide) rfl (fun ls hl => ?_)
          refine lv_goto (tgt := 4) E.hx E.hb dX9_lines_87 (by decide) ?_
          exact ih_4 th_j4 w1_j4 v2_12 _ _ _ hW (lv_sub hl [1, 2, 0] rfl) hf
  exact L_4 n th_0 (0 : Int32) (0 : Int32) _ _ _ hW (lv_sub hl [2, 1, 0] rfl) hf
def f_X9_putsOff (n : Nat) (th_0 : OS) (v1_0 : Int32) : Option (OS) :=
  Let ((602 : Int32) + ((7 : Int32) * v1_0)) (fun v2_1 : Int32 =>
  gI 1846 (v2_1 + (4 : Int32)) (Let ((th_0.2.1 9) (v2_1 + (4 : Int32)).toNatClampNeg) (fun x_2 : Int32 =>
  gI 1846 (v2_1 + (4 : Int32)) (Let (sA th_0 9 (upd (th_0.2.1 9) (v2_1 + (4 : Int32)).toNatClampNeg (x_2 + (1 : Int32)))) (fun th_3 : OS =>
  gI 1846 (v2_1 + (4 : Int32)) (Let ((th_3.2.1 9) (v2_1 + (4 : Int32)).toNatClampNeg) (fun x_4 : Int32 =>
  if (th_3.1 6) ≤ x_4 then (
  gI 1846 (v2_1 + (3 : Int32)) (Let (sA th_3 9 (upd (th_3.2.1 9) (v2_1 + (3 : Int32)).toNatClampNeg (2 : Int32))) (fun th_5 : OS =>
  gI 1846 (9 : Int32) (Let ((th_5.2.1 9) (9 : Int32).toNatClampNeg) (fun x_6 : Int32 =>
  gI 1846 (9 : Int32) (Let (sA th_5 9 (upd (th_5.2.1 9) (9 : Int32).toNatClampNeg (x_6 + (1 : Int32)))) (fun th_7 : OS =>
  some th_7))))))) else (
  some th_3))))))))
set_option maxHeartbeats 4000000 in
set_option maxRecDepth 100000 in
theorem c_X9_putsOff (n : Nat) (l : Launch) (k : KT) (a_th : Nat → Nat) (th_0 : OS) (v1_0 : Int32) (res : (OS)) (hf : f_X9_putsOff n th_0 v1_0 = some res) : CG l k yX9_putsOff cX9_putsOff 3 none 0 0 0 0 [.ref (a_th 0), .int v1_0] (wModel k a_th th_0) (Qv k (fun u : OS => wModel k a_th u) (fun u : OS => res = u)) := by
  refine CG.ofV (by decide) (Nat.le_of_ble_eq_true rfl) (fun p e s m args below meth c A Q E hnm hW hA hret ls hl => ?_)
  have hl : lv_has ls 3 [(0, .ref (a_th 0)), (1, .int v1_0)] := hl
  unfold f_X9_putsOff at hf
  refine lv_sipush (v := (602 : Int32)) E.hx E.hb dX9_putsOff_0 sp_602 ?_
  refine lv_bipush (v := (7 : Int32)) E.hx E.hb dX9_putsOff_3 bp_7 ?_
  refine k_iload_n E hl 1 dX9_putsOff_5 rfl ?_
  refine lv_imul E.hx E.hb dX9_putsOff_6 ?_
  refine lv_iadd E.hx E.hb dX9_putsOff_7 ?_
  obtain ⟨v2_1, ev2_1, hf⟩ := oL hf
  refine k_istore_n (lv' := [(2, .int v2_1), (0, .ref (a_th 0)), (1, .int v1_0)]) E ev2_1 hl dX9_putsOff_8 rfl (by decide) rfl (fun ls hl => ?_)
  refine k_aload_n E hl 1 dX9_putsOff_9 rfl ?_
  refine gf_X9_13 E hW 0 rfl rfl dX9_putsOff_10 ?_
  refine k_iload_n E hl 0 dX9_putsOff_13 rfl ?_
  refine lv_iconst (v := (4 : Int32)) E.hx E.hb dX9_putsOff_14 ic_4 ?_
  refine lv_iadd E.hx E.hb dX9_putsOff_15 ?_
  refine k_aload_n E hl 1 dX9_putsOff_16 rfl ?_
  refine gf_X9_13 E hW 0 rfl rfl dX9_putsOff_17 ?_
  refine k_iload_n E hl 0 dX9_putsOff_20 rfl ?_
  refine lv_iconst (v := (4 : Int32)) E.hx E.hb dX9_putsOff_21 ic_4 ?_
  refine lv_iadd E.hx E.hb dX9_putsOff_22 ?_
  obtain ⟨hin, hf⟩ := oI hf
  obtain ⟨x_2, ex_2, hf⟩ := oL hf
  refine k_iald E hW 2 rfl hin dX9_putsOff_23 ?_
  refine k_topi ex_2 ?_
  refine lv_iconst (v := (1 : Int32)) E.hx E.hb dX9_putsOff_24 ic_1 ?_
  refine lv_iadd E.hx E.hb dX9_putsOff_25 ?_
  obtain ⟨hin, hf⟩ := oI hf
  obtain ⟨th_3, eth_3, hf⟩ := oL hf
  refine k_iast (ws2 := wModel k a_th th_3) E hW 2 rfl hin dX9_putsOff_26 (by rw [eth_3]; rfl) (fun H locs hW => ?_)
  refine k_aload_n E hl 1 dX9_putsOff_27 rfl ?_
  refine gf_X9_13 E hW 0 rfl rfl dX9_putsOff_28 ?_
  refine k_iload_n E hl 0 dX9_putsOff_31 rfl ?_
  refine lv_iconst (v := (4 : Int32)) E.hx E.hb dX9_putsOff_32 ic_4 ?_
  refine lv_iadd E.hx E.hb dX9_putsOff_33 ?_
  obtain ⟨hin, hf⟩ := oI hf
  obtain ⟨x_4, ex_4, hf⟩ := oL hf
  refine k_iald E hW 2 rfl hin dX9_putsOff_34 ?_
  refine k_topi ex_4 ?_
  refine k_aload_n E hl 1 dX9_putsOff_35 rfl ?_
  refine gf_X9_148 E hW 0 rfl rfl dX9_putsOff_36 ?_
  refine lv_icmp_ge (tgt := 43) E.hx E.hb dX9_putsOff_39 (by decide) (fun hc => ?_) (fun hc => ?_)
  · have hf := oT hc hf
    refine k_aload_n E hl 1 dX9_putsOff_43 rfl ?_
    refine gf_X9_13 E hW 0 rfl rfl dX9_putsOff_44 ?_
    refine k_iload_n E hl 0 dX9_putsOff_47 rfl ?_
    refine lv_iconst (v := (3 : Int32)) E.hx E.hb dX9_putsOff_48 ic_3 ?_
    refine lv_iadd E.hx E.hb dX9_putsOff_49 ?_
    refine lv_iconst (v := (2 : Int32)) E.hx E.hb dX9_putsOff_50 ic_2 ?_
    obtain ⟨hin, hf⟩ := oI hf
    obtain ⟨th_5, eth_5, hf⟩ := oL hf
    refine k_iast (ws2 := wModel k a_th th_5) E hW 2 rfl hin dX9_putsOff_51 (by rw [eth_5]; rfl) (fun H locs hW => ?_)
    refine k_aload_n E hl 1 dX9_putsOff_52 rfl ?_
    refine gf_X9_13 E hW 0 rfl rfl dX9_putsOff_53 ?_
    refine lv_bipush (v := (9 : Int32)) E.hx E.hb dX9_putsOff_56 bp_9 ?_
    refine k_aload_n E hl 1 dX9_putsOff_58 rfl ?_
    refine gf_X9_13 E hW 0 rfl rfl dX9_putsOff_59 ?_
    refine lv_bipush (v := (9 : Int32)) E.hx E.hb dX9_putsOff_62 bp_9 ?_
    obtain ⟨hin, hf⟩ := oI hf
    obtain ⟨x_6, ex_6, hf⟩ := oL hf
    refine k_iald E hW 2 rfl hin dX9_putsOff_64 ?_
    refine k_topi ex_6 ?_
    refine lv_iconst (v := (1 : Int32)) E.hx E.hb dX9_putsOff_65 ic_1 ?_
    refine lv_iadd E.hx E.hb dX9_putsOff_66 ?_
    obtain ⟨hin, hf⟩ := oI hf
    obtain ⟨th_7, eth_7, hf⟩ := oL hf
    refine k_iast (ws2 := wModel k a_th th_7) E hW 2 rfl hin dX9_putsOff_67 (by rw [eth_7]; rfl) (fun H locs hW => ?_)
    exact hret th_7 _ _ _ _ _ _ hW (Option.some.inj hf).symm (by decide) (by decide) dX9_putsOff_68
  · have hf := oF hc hf
    exact hret th_3 _ _ _ _ _ _ hW (Option.some.inj hf).symm (by decide) (by decide) dX9_putsOff_42
def s_X9_takesBack_2 (n : Nat) (rc_2 : (OS) → (Int32) → Option (OS)) (th_j2 : OS) (w2_j2 : Int32) : Option (OS) :=
  if w2_j2 ≤ 0 then (
  some th_j2) else (
  bnd (f_X9_earliestBroken n th_j2) (fun (r_1 : Int32) =>
  bnd (f_X9_pagesOf n th_j2 r_1) (fun (r_2 : Int32) =>
  bnd (f_X9_lesser n w2_j2 r_2) (fun (r_3 : Int32) =>
  bnd (f_X9_frees n th_j2 r_1 r_3) (fun (th_4 : OS) =>
  bnd (f_X9_loan0 n th_4 r_1 (4 : Int32)) (fun (r_5 : Int32) =>
  gI 1846 (((58 : Int32) + ((6 : Int32) * r_1)) + (4 : Int32)) (Let (sA th_4 9 (upd (th_4.2.1 9) (((58 : Int32) + ((6 : Int32) * r_1)) + (4 : Int32)).toNatClampNeg (r_5 + r_3))) (fun th_6 : OS =>
  gI 1846 (5 : Int32) (Let ((th_6.2.1 9) (5 : Int32).toNatClampNeg) (fun x_7 : Int32 =>
  gI 1846 (5 : Int32) (Let (sA th_6 9 (upd (th_6.2.1 9) (5 : Int32).toNatClampNeg (x_7 + r_3))) (fun th_8 : OS =>
  Let (w2_j2 - r_3) (fun v2_9 : Int32 =>
  rc_2 th_8 v2_9)))))))))))))
def l_X9_takesBack_2 (n : Nat) : Nat → (OS) → (Int32) → Option (OS)
  | 0 => fun _ _ => none
  | N + 1 => s_X9_takesBack_2 n (l_X9_takesBack_2 n N)
def f_X9_takesBack (n : Nat) (th_0 : OS) (v1_0 : Int32) : Option (OS) :=
  l_X9_takesBack_2 n n th_0 v1_0
set_option maxHeartbeats 4000000 in
set_option maxRecDepth 100000 in
theorem c_X9_takesBack (n : Nat) (l : Launch) (k : KT) (a_th : Nat → Nat) (th_0 : OS) (v1_0 : Int32) (res : (OS)) (hf : f_X9_takesBack n th_0 v1_0 = some res) : CG l k yX9_takesBack cX9_takesBack 5 none 3 0 0 66 [.ref (a_th 0), .int v1_0] (wModel k a_th th_0) (Qv k (fun u : OS => wModel k a_th u) (fun u : OS => res = u)) := by
  refine CG.ofV (by decide) (Nat.le_of_ble_eq_true rfl) (fun p e s m args below meth c A Q E hnm hW hA hret ls hl => ?_)
  have hl : lv_has ls 5 [(0, .ref (a_th 0)), (1, .int v1_0)] := hl
  unfold f_X9_takesBack at hf
  refine k_iload_n E hl 1 dX9_takesBack_0 rfl ?_
  refine k_istore_n (lv' := [(2, .int v1_0), (0, .ref (a_th 0)), (1, .int v1_0)]) E rfl hl dX9_takesBack_1 rfl (by decide) rfl (fun ls hl => ?_)
  have L_2 : ∀ (N_2 : Nat) (th_j2 : OS) (w2_j2 : Int32) (H : Heap) (locs : List Loc) (ls : Array Slot) (hW : WD k A s.heap (wModel k a_th th_j2) H locs) (hl : lv_has ls 5 [(0, .ref (a_th 0)), (2, .int w2_j2)]) (hf : l_X9_takesBack_2 n N_2 th_j2 w2_j2 = some res), W p l e { frames := 3, cells := 0, slots := 0, locals := 66 } s m args below meth c H locs 0 0 Q (F0 m 2 ls []) := by
    intro N_2
    induction N_2 with
    | zero => intro th_j2 w2_j2 H locs ls hW hl hf; exact o0 hf
    | succ N_2 ih_2 =>
      intro th_j2 w2_j2 H locs ls hW hl hf
      have hf : s_X9_takesBack_2 n  (l_X9_takesBack_2 n N_2) th_j2 w2_j2 = some res := hf
      unfold s_X9_takesBack_2 at hf
      refine k_iload_n E hl 1 dX9_takesBack_2 rfl ?_
      refine lv_if_le (tgt := 75) E.hx E.hb dX9_takesBack_3 (by decide) (fun hc => ?_) (fun hc => ?_)
      · have hf := oT hc hf
        exact hret th_j2 _ _ _ _ _ _ hW (Option.some.inj hf).symm (by decide) (by decide) dX9_takesBack_75
      · have hf := oF hc hf
        refine k_aload_n E hl 0 dX9_takesBack_6 rfl ?_
        obtain ⟨r_1, hg, hf⟩ := ob hf
        refine k_callVi (As := []) (rest := []) (ws2 := fun u => wModel k a_th th_j2) (c_X9_earliestBroken n l k a_th th_j2 r_1 hg) E vl_X9_151 dX9_takesBack_7 rfl [0, 1, 2, 3, 4, 5, 6, 7, 8, 9, 10, 11, 12] 7 0 hW hA hl rfl rfl rfl rfl ⟨by decide, by decide⟩ ⟨by decide, by decide⟩ (Nat.le_of_ble_eq_true rfl) rfl (fun _ => rfl) (fun _ => rfl) (fun r u H locs hp hW => ?_)
        cases hp
        have hW : WD k A s.heap (wModel k a_th th_j2) H locs := hW
        refine k_istore_n (lv' := [(3, .int r_1), (0, .ref (a_th 0)), (2, .int w2_j2)]) E rfl hl dX9_takesBack_10 rfl (by decide) rfl (fun ls hl => ?_)
        refine k_iload_n E hl 2 dX9_takesBack_11 rfl ?_
        refine k_aload_n E hl 1 dX9_takesBack_12 rfl ?_
        refine k_iload_n E hl 0 dX9_takesBack_13 rfl ?_
        obtain ⟨r_2, hg, hf⟩ := ob hf
        refine k_callVi (As := [.int r_1]) (rest := [.int w2_j2]) (ws2 := fun u => wModel k a_th th_j2) (c_X9_pagesOf n l k a_th th_j2 r_1 r_2 hg) E vl_X9_103 dX9_takesBack_14 rfl [0, 1, 2, 3, 4, 5, 6, 7, 8, 9, 10, 11, 12] 7 0 hW hA hl rfl rfl rfl rfl ⟨by decide, by decide⟩ ⟨by decide, by decide⟩ (Nat.le_of_ble_eq_true rfl) rfl (fun _ => rfl) (fun _ => rfl) (fun r u H locs hp hW => ?_)
        cases hp
        have hW : WD k A s.heap (wModel k a_th th_j2) H locs := hW
        obtain ⟨r_3, hg, hf⟩ := ob hf
        refine k_callSi (As := [.int w2_j2, .int r_2]) (rest := []) (ws2 := fun u => wModel k a_th th_j2) (c_X9_lesser n l k w2_j2 r_2 r_3 hg) E sl_X9_126 dX9_takesBack_17 rfl [] hW hA hl rfl rfl ⟨by decide, by decide⟩ ⟨by decide, by decide⟩ (Nat.le_of_ble_eq_true rfl) rfl (fun _ => rfl) (fun _ => rfl) (fun r u H locs hp hW => ?_)
        cases hp
        have hW : WD k A s.heap (wModel k a_th th_j2) H locs := hW
        refine k_istore (lv' := [(4, .int r_3), (3, .int r_1), (0, .ref (a_th 0)), (2, .int w2_j2)]) E rfl hl dX9_takesBack_20 (by decide) rfl (fun ls hl => ?_)
        refine k_aload_n E hl 2 dX9_takesBack_22 rfl ?_
        refine k_iload_n E hl 1 dX9_takesBack_23 rfl ?_
        refine k_iload E hl 0 dX9_takesBack_24 rfl ?_
        obtain ⟨th_4, hg, hf⟩ := ob hf
        refine k_callVv (As := [.int r_1, .int r_3]) (rest := []) (ws2 := fun u => wModel k a_th (u)) (c_X9_frees n l k a_th th_j2 r_1 r_3 th_4 hg) E vl_X9_155 dX9_takesBack_26 rfl [0, 1, 2, 3, 4, 5, 6, 7, 8, 9, 10, 11, 12] 7 0 hW hA hl rfl rfl rfl rfl ⟨by decide, by decide⟩ ⟨by decide, by decide⟩ (Nat.le_of_ble_eq_true rfl) rfl (fun _ => rfl) (fun _ => rfl) (fun u H locs hp hW => ?_)
        cases hp
        have hW : WD k A s.heap (wModel k a_th th_4) H locs := hW
        refine k_aload_n E hl 2 dX9_takesBack_29 rfl ?_
        refine gf_X9_13 E hW 0 rfl rfl dX9_takesBack_30 ?_
        refine lv_bipush (v := (58 : Int32)) E.hx E.hb dX9_takesBack_33 bp_58 ?_
        refine lv_bipush (v := (6 : Int32)) E.hx E.hb dX9_takesBack_35 bp_6 ?_
        refine k_iload_n E hl 1 dX9_takesBack_37 rfl ?_
        refine lv_imul E.hx E.hb dX9_takesBack_38 ?_
        refine lv_iadd E.hx E.hb dX9_takesBack_39 ?_
        refine lv_iconst (v := (4 : Int32)) E.hx E.hb dX9_takesBack_40 ic_4 ?_
        refine lv_iadd E.hx E.hb dX9_takesBack_41 ?_
        refine k_aload_n E hl 2 dX9_takesBack_42 rfl ?_
        refine k_iload_n E hl 1 dX9_takesBack_43 rfl ?_
        refine lv_iconst (v := (4 : Int32)) E.hx E.hb dX9_takesBack_44 ic_4 ?_
        obtain ⟨r_5, hg, hf⟩ := ob hf
        refine k_callVi (As := [.int r_1, .int (4 : Int32)]) (rest := [.int (((58 : Int32) + ((6 : Int32) * r_1)) + (4 : Int32)), .ref (a_th 2)]) (ws2 := fun u => wModel k a_th th_4) (c_X9_loan0 n l k a_th th_4 r_1 (4 : Int32) r_5 hg) E vl_X9_106 dX9_takesBack_45 rfl [0, 1, 2, 3, 4, 5, 6, 7, 8, 9, 10, 11, 12] 7 0 hW hA hl rfl rfl rfl rfl ⟨by decide, by decide⟩ ⟨by decide, by decide⟩ (Nat.le_of_ble_eq_true rfl) rfl (fun _ => rfl) (fun _ => rfl) (fun r u H locs hp hW => ?_)
        cases hp
        have hW : WD k A s.heap (wModel k a_th th_4) H locs := hW
        refine k_iload E hl 0 dX9_takesBack_48 rfl ?_
        refine lv_iadd E.hx E.hb dX9_takesBack_50 ?_
        obtain ⟨hin, hf⟩ := oI hf
        obtain ⟨th_6, eth_6, hf⟩ := oL hf
        refine k_iast (ws2 := wModel k a_th th_6) E hW 2 rfl hin dX9_takesBack_51 (by rw [eth_6]; rfl) (fun H locs hW => ?_)
        refine k_aload_n E hl 2 dX9_takesBack_52 rfl ?_
        refine gf_X9_13 E hW 0 rfl rfl dX9_takesBack_53 ?_
        refine lv_iconst (v := (5 : Int32)) E.hx E.hb dX9_takesBack_56 ic_5 ?_
        refine k_aload_n E hl 2 dX9_takesBack_57 rfl ?_
        refine gf_X9_13 E hW 0 rfl rfl dX9_takesBack_58 ?_
        refine lv_iconst (v := (5 : Int32)) E.hx E.hb dX9_takesBack_61 ic_5 ?_
        obtain ⟨hin, hf⟩ := oI hf
        obtain ⟨x_7, ex_7, hf⟩ := oL hf
        refine k_iald E hW 2 rfl hin dX9_takesBack_62 ?_
        refine k_topi ex_7 ?_
        refine k_iload E hl 0 dX9_takesBack_63 rfl ?_
        refine lv_iadd E.hx E.hb dX9_takesBack_65 ?_
        obtain ⟨hin, hf⟩ := oI hf
        obtain ⟨th_8, eth_8, hf⟩ := oL hf
        refine k_iast (ws2 := wModel k a_th th_8) E hW 2 rfl hin dX9_takesBack_66 (by rw [eth_8]; rfl) (fun H locs hW => ?_)
        refine k_iload_n E hl 3 dX9_takesBack_67 rfl ?_
        refine k_iload E hl 0 dX9_takesBack_68 rfl ?_
        refine lv_isub E.hx E.hb dX9_takesBack_70 ?_
        obtain ⟨v2_9, ev2_9, hf⟩ := oL hf
        refine k_istore_n (lv' := [(2, .int v2_9), (4, .int r_3), (3, .int r_1), (0, .ref (a_th 0))]) E ev2_9 hl dX9_takesBack_71 rfl (by decide) rfl (fun ls hl => ?_)
        refine lv_goto (tgt := 2) E.hx E.hb dX9_takesBack_72 (by decide) ?_
        exact ih_2 th_8 v2_9 _ _ _ hW (lv_sub hl [3, 0] rfl) hf
  exact L_2 n th_0 v1_0 _ _ _ hW (lv_sub hl [1, 0] rfl) hf
def f_X9_meets (n : Nat) (th_0 : OS) (v1_0 : Int32) : Option (OS) :=
  Let ((602 : Int32) + ((7 : Int32) * v1_0)) (fun v2_1 : Int32 =>
  gI 1846 (v2_1 + (0 : Int32)) (Let ((th_0.2.1 9) (v2_1 + (0 : Int32)).toNatClampNeg) (fun x_2 : Int32 =>
  gI 1846 (v2_1 + (3 : Int32)) (Let (sA th_0 9 (upd (th_0.2.1 9) (v2_1 + (3 : Int32)).toNatClampNeg (1 : Int32))) (fun th_3 : OS =>
  gI 1846 (6 : Int32) (Let ((th_3.2.1 9) (6 : Int32).toNatClampNeg) (fun x_4 : Int32 =>
  gI 1846 (v2_1 + (5 : Int32)) (Let (sA th_3 9 (upd (th_3.2.1 9) (v2_1 + (5 : Int32)).toNatClampNeg x_4)) (fun th_5 : OS =>
  gI 1846 (8 : Int32) (Let ((th_5.2.1 9) (8 : Int32).toNatClampNeg) (fun x_6 : Int32 =>
  gI 1846 (8 : Int32) (Let (sA th_5 9 (upd (th_5.2.1 9) (8 : Int32).toNatClampNeg (x_6 + (1 : Int32)))) (fun th_7 : OS =>
  bnd (f_X9_process0 n th_7 x_2 (3 : Int32)) (fun (r_8 : Int32) =>
  bnd (f_X9_sets n th_7 x_2 (3 : Int32) (r_8 + (1 : Int32))) (fun (th_9 : OS) =>
  gI 1846 (v2_1 + (1 : Int32)) (Let ((th_9.2.1 9) (v2_1 + (1 : Int32)).toNatClampNeg) (fun x_10 : Int32 =>
  gI 1846 (0 : Int32) (Let ((th_9.2.1 9) (0 : Int32).toNatClampNeg) (fun x_11 : Int32 =>
  gI 1846 (v2_1 + (2 : Int32)) (Let ((th_9.2.1 9) (v2_1 + (2 : Int32)).toNatClampNeg) (fun x_12 : Int32 =>
  bnd (f_X9_lends n 1846 (th_9.2.1 9) x_2 x_10 (x_11 + x_12) v1_0) (fun (y_13 : Nat → Int32) =>
  Let (sA th_9 9 y_13) (fun th_14 : OS =>
  some th_14)))))))))))))))))))))))
set_option maxHeartbeats 4000000 in
set_option maxRecDepth 100000 in
theorem c_X9_meets (n : Nat) (l : Launch) (k : KT) (a_th : Nat → Nat) (th_0 : OS) (v1_0 : Int32) (res : (OS)) (hf : f_X9_meets n th_0 v1_0 = some res) : CG l k yX9_meets cX9_meets 4 none 1 0 0 28 [.ref (a_th 0), .int v1_0] (wModel k a_th th_0) (Qv k (fun u : OS => wModel k a_th u) (fun u : OS => res = u)) := by
  refine CG.ofV (by decide) (Nat.le_of_ble_eq_true rfl) (fun p e s m args below meth c A Q E hnm hW hA hret ls hl => ?_)
  have hl : lv_has ls 4 [(0, .ref (a_th 0)), (1, .int v1_0)] := hl
  unfold f_X9_meets at hf
  refine lv_sipush (v := (602 : Int32)) E.hx E.hb dX9_meets_0 sp_602 ?_
  refine lv_bipush (v := (7 : Int32)) E.hx E.hb dX9_meets_3 bp_7 ?_
  refine k_iload_n E hl 1 dX9_meets_5 rfl ?_
  refine lv_imul E.hx E.hb dX9_meets_6 ?_
  refine lv_iadd E.hx E.hb dX9_meets_7 ?_
  obtain ⟨v2_1, ev2_1, hf⟩ := oL hf
  refine k_istore_n (lv' := [(2, .int v2_1), (0, .ref (a_th 0)), (1, .int v1_0)]) E ev2_1 hl dX9_meets_8 rfl (by decide) rfl (fun ls hl => ?_)
  refine k_aload_n E hl 1 dX9_meets_9 rfl ?_
  refine gf_X9_13 E hW 0 rfl rfl dX9_meets_10 ?_
  refine k_iload_n E hl 0 dX9_meets_13 rfl ?_
  refine lv_iconst (v := (0 : Int32)) E.hx E.hb dX9_meets_14 ic_0 ?_
  refine lv_iadd E.hx E.hb dX9_meets_15 ?_
  obtain ⟨hin, hf⟩ := oI hf
  obtain ⟨x_2, ex_2, hf⟩ := oL hf
  refine k_iald E hW 2 rfl hin dX9_meets_16 ?_
  refine k_topi ex_2 ?_
  refine k_istore_n (lv' := [(3, .int x_2), (2, .int v2_1), (0, .ref (a_th 0)), (1, .int v1_0)]) E rfl hl dX9_meets_17 rfl (by decide) rfl (fun ls hl => ?_)
  refine k_aload_n E hl 2 dX9_meets_18 rfl ?_
  refine gf_X9_13 E hW 0 rfl rfl dX9_meets_19 ?_
  refine k_iload_n E hl 1 dX9_meets_22 rfl ?_
  refine lv_iconst (v := (3 : Int32)) E.hx E.hb dX9_meets_23 ic_3 ?_
  refine lv_iadd E.hx E.hb dX9_meets_24 ?_
  refine lv_iconst (v := (1 : Int32)) E.hx E.hb dX9_meets_25 ic_1 ?_
  obtain ⟨hin, hf⟩ := oI hf
  obtain ⟨th_3, eth_3, hf⟩ := oL hf
  refine k_iast (ws2 := wModel k a_th th_3) E hW 2 rfl hin dX9_meets_26 (by rw [eth_3]; rfl) (fun H locs hW => ?_)
  refine k_aload_n E hl 2 dX9_meets_27 rfl ?_
  refine gf_X9_13 E hW 0 rfl rfl dX9_meets_28 ?_
  refine k_iload_n E hl 1 dX9_meets_31 rfl ?_
  refine lv_iconst (v := (5 : Int32)) E.hx E.hb dX9_meets_32 ic_5 ?_
  refine lv_iadd E.hx E.hb dX9_meets_33 ?_
  refine k_aload_n E hl 2 dX9_meets_34 rfl ?_
  refine gf_X9_13 E hW 0 rfl rfl dX9_meets_35 ?_
  refine lv_bipush (v := (6 : Int32)) E.hx E.hb dX9_meets_38 bp_6 ?_
  obtain ⟨hin, hf⟩ := oI hf
  obtain ⟨x_4, ex_4, hf⟩ := oL hf
  refine k_iald E hW 2 rfl hin dX9_meets_40 ?_
  refine k_topi ex_4 ?_
  obtain ⟨hin, hf⟩ := oI hf
  obtain ⟨th_5, eth_5, hf⟩ := oL hf
  refine k_iast (ws2 := wModel k a_th th_5) E hW 2 rfl hin dX9_meets_41 (by rw [eth_5]; rfl) (fun H locs hW => ?_)
  refine k_aload_n E hl 2 dX9_meets_42 rfl ?_
  refine gf_X9_13 E hW 0 rfl rfl dX9_meets_43 ?_
  refine lv_bipush (v := (8 : Int32)) E.hx E.hb dX9_meets_46 bp_8 ?_
  refine k_aload_n E hl 2 dX9_meets_48 rfl ?_
  refine gf_X9_13 E hW 0 rfl rfl dX9_meets_49 ?_
  refine lv_bipush (v := (8 : Int32)) E.hx E.hb dX9_meets_52 bp_8 ?_
  obtain ⟨hin, hf⟩ := oI hf
  obtain ⟨x_6, ex_6, hf⟩ := oL hf
  refine k_iald E hW 2 rfl hin dX9_meets_54 ?_
  refine k_topi ex_6 ?_
  refine lv_iconst (v := (1 : Int32)) E.hx E.hb dX9_meets_55 ic_1 ?_
  refine lv_iadd E.hx E.hb dX9_meets_56 ?_
  obtain ⟨hin, hf⟩ := oI hf
  obtain ⟨th_7, eth_7, hf⟩ := oL hf
  refine k_iast (ws2 := wModel k a_th th_7) E hW 2 rfl hin dX9_meets_57 (by rw [eth_7]; rfl) (fun H locs hW => ?_)
  refine k_aload_n E hl 2 dX9_meets_58 rfl ?_
  refine k_iload_n E hl 0 dX9_meets_59 rfl ?_
  refine lv_iconst (v := (3 : Int32)) E.hx E.hb dX9_meets_60 ic_3 ?_
  refine k_aload_n E hl 2 dX9_meets_61 rfl ?_
  refine k_iload_n E hl 0 dX9_meets_62 rfl ?_
  refine lv_iconst (v := (3 : Int32)) E.hx E.hb dX9_meets_63 ic_3 ?_
  obtain ⟨r_8, hg, hf⟩ := ob hf
  refine k_callVi (As := [.int x_2, .int (3 : Int32)]) (rest := [.int (3 : Int32), .int x_2, .ref (a_th 0)]) (ws2 := fun u => wModel k a_th th_7) (c_X9_process0 n l k a_th th_7 x_2 (3 : Int32) r_8 hg) E vl_X9_120 dX9_meets_64 rfl [0, 1, 2, 3, 4, 5, 6, 7, 8, 9, 10, 11, 12] 7 0 hW hA hl rfl rfl rfl rfl ⟨by decide, by decide⟩ ⟨by decide, by decide⟩ (Nat.le_of_ble_eq_true rfl) rfl (fun _ => rfl) (fun _ => rfl) (fun r u H locs hp hW => ?_)
  cases hp
  have hW : WD k A s.heap (wModel k a_th th_7) H locs := hW
  refine lv_iconst (v := (1 : Int32)) E.hx E.hb dX9_meets_67 ic_1 ?_
  refine lv_iadd E.hx E.hb dX9_meets_68 ?_
  obtain ⟨th_9, hg, hf⟩ := ob hf
  refine k_callVv (As := [.int x_2, .int (3 : Int32), .int (r_8 + (1 : Int32))]) (rest := []) (ws2 := fun u => wModel k a_th (u)) (c_X9_sets n l k a_th th_7 x_2 (3 : Int32) (r_8 + (1 : Int32)) th_9 hg) E vl_X9_129 dX9_meets_69 rfl [0, 1, 2, 3, 4, 5, 6, 7, 8, 9, 10, 11, 12] 7 0 hW hA hl rfl rfl rfl rfl ⟨by decide, by decide⟩ ⟨by decide, by decide⟩ (Nat.le_of_ble_eq_true rfl) rfl (fun _ => rfl) (fun _ => rfl) (fun u H locs hp hW => ?_)
  cases hp
  have hW : WD k A s.heap (wModel k a_th th_9) H locs := hW
  refine k_aload_n E hl 2 dX9_meets_72 rfl ?_
  refine gf_X9_13 E hW 0 rfl rfl dX9_meets_73 ?_
  refine k_iload_n E hl 0 dX9_meets_76 rfl ?_
  refine k_aload_n E hl 2 dX9_meets_77 rfl ?_
  refine gf_X9_13 E hW 0 rfl rfl dX9_meets_78 ?_
  refine k_iload_n E hl 1 dX9_meets_81 rfl ?_
  refine lv_iconst (v := (1 : Int32)) E.hx E.hb dX9_meets_82 ic_1 ?_
  refine lv_iadd E.hx E.hb dX9_meets_83 ?_
  obtain ⟨hin, hf⟩ := oI hf
  obtain ⟨x_10, ex_10, hf⟩ := oL hf
  refine k_iald E hW 2 rfl hin dX9_meets_84 ?_
  refine k_topi ex_10 ?_
  refine k_aload_n E hl 2 dX9_meets_85 rfl ?_
  refine gf_X9_13 E hW 0 rfl rfl dX9_meets_86 ?_
  refine lv_iconst (v := (0 : Int32)) E.hx E.hb dX9_meets_89 ic_0 ?_
  obtain ⟨hin, hf⟩ := oI hf
  obtain ⟨x_11, ex_11, hf⟩ := oL hf
  refine k_iald E hW 2 rfl hin dX9_meets_90 ?_
  refine k_topi ex_11 ?_
  refine k_aload_n E hl 2 dX9_meets_91 rfl ?_
  refine gf_X9_13 E hW 0 rfl rfl dX9_meets_92 ?_
  refine k_iload_n E hl 1 dX9_meets_95 rfl ?_
  refine lv_iconst (v := (2 : Int32)) E.hx E.hb dX9_meets_96 ic_2 ?_
  refine lv_iadd E.hx E.hb dX9_meets_97 ?_
  obtain ⟨hin, hf⟩ := oI hf
  obtain ⟨x_12, ex_12, hf⟩ := oL hf
  refine k_iald E hW 2 rfl hin dX9_meets_98 ?_
  refine k_topi ex_12 ?_
  refine lv_iadd E.hx E.hb dX9_meets_99 ?_
  refine k_iload_n E hl 3 dX9_meets_100 rfl ?_
  obtain ⟨y_13, hg, hf⟩ := ob hf
  obtain ⟨th_14, eth_14, hf⟩ := oL hf
  refine k_callSv (As := [.ref (a_th 2), .int x_2, .int x_10, .int (x_11 + x_12), .int v1_0]) (rest := []) (ws2 := fun u => wModel k a_th (sA th_9 9 (u))) (c_X9_lends n l k (fun j => a_th (2 + j)) 1846 (th_9.2.1 9) x_2 x_10 (x_11 + x_12) v1_0 y_13 hg) E sl_X9_159 dX9_meets_101 rfl [2] hW hA hl rfl rfl ⟨by decide, by decide⟩ ⟨by decide, by decide⟩ (Nat.le_of_ble_eq_true rfl) rfl (fun _ => rfl) (fun _ => rfl) (fun u H locs hp hW => ?_)
  cases hp
  have hW : WD k A s.heap (wModel k a_th th_14) H locs := by rw [eth_14]; exact hW
  exact hret th_14 _ _ _ _ _ _ hW (Option.some.inj hf).symm (by decide) (by decide) dX9_meets_104
def j_X9_looksAt_50 (n : Nat) (v1_0 : Int32) (th_j50 : OS) (w2_j50 : Int32) : Option (OS) :=
  if w2_j50 ≤ 0 then (
  bnd (f_X9_meets n th_j50 v1_0) (fun (th_6 : OS) =>
  some th_6)) else (
  bnd (f_X9_takesBack n th_j50 w2_j50) (fun (th_7 : OS) =>
  bnd (f_X9_meets n th_7 v1_0) (fun (th_8 : OS) =>
  some th_8)))
def f_X9_looksAt (n : Nat) (th_0 : OS) (v1_0 : Int32) : Option (OS) :=
  bnd (f_X9_claim0 n th_0 v1_0 (0 : Int32)) (fun (r_1 : Int32) =>
  bnd (f_X9_process0 n th_0 r_1 (1 : Int32)) (fun (r_2 : Int32) =>
  if r_2 ≤ 0 then (
  bnd (f_X9_claim0 n th_0 v1_0 (1 : Int32)) (fun (r_3 : Int32) =>
  bnd (f_X9_free n th_0) (fun (r_4 : Int32) =>
  Let (r_3 - r_4) (fun v2_5 : Int32 =>
  if v2_5 ≤ 0 then (
  j_X9_looksAt_50 n v1_0 th_0 v2_5) else (
  bnd (f_X9_brokenPages n th_0) (fun (r_9 : Int32) =>
  if v2_5 ≤ r_9 then (
  j_X9_looksAt_50 n v1_0 th_0 v2_5) else (
  bnd (f_X9_putsOff n th_0 v1_0) (fun (th_10 : OS) =>
  some th_10)))))))) else (
  bnd (f_X9_putsOff n th_0 v1_0) (fun (th_11 : OS) =>
  some th_11))))
set_option maxHeartbeats 4000000 in
set_option maxRecDepth 100000 in
theorem c_X9_looksAt (n : Nat) (l : Launch) (k : KT) (a_th : Nat → Nat) (th_0 : OS) (v1_0 : Int32) (res : (OS)) (hf : f_X9_looksAt n th_0 v1_0 = some res) : CG l k yX9_looksAt cX9_looksAt 3 none 4 0 0 90 [.ref (a_th 0), .int v1_0] (wModel k a_th th_0) (Qv k (fun u : OS => wModel k a_th u) (fun u : OS => res = u)) := by
  refine CG.ofV (by decide) (Nat.le_of_ble_eq_true rfl) (fun p e s m args below meth c A Q E hnm hW hA hret ls hl => ?_)
  have hl : lv_has ls 3 [(0, .ref (a_th 0)), (1, .int v1_0)] := hl
  unfold f_X9_looksAt at hf
  refine k_aload_n E hl 0 dX9_looksAt_0 rfl ?_
  refine k_aload_n E hl 0 dX9_looksAt_1 rfl ?_
  refine k_iload_n E hl 1 dX9_looksAt_2 rfl ?_
  refine lv_iconst (v := (0 : Int32)) E.hx E.hb dX9_looksAt_3 ic_0 ?_
  obtain ⟨r_1, hg, hf⟩ := ob hf
  refine k_callVi (As := [.int v1_0, .int (0 : Int32)]) (rest := [.ref (a_th 0)]) (ws2 := fun u => wModel k a_th th_0) (c_X9_claim0 n l k a_th th_0 v1_0 (0 : Int32) r_1 hg) E vl_X9_139 dX9_looksAt_4 rfl [0, 1, 2, 3, 4, 5, 6, 7, 8, 9, 10, 11, 12] 7 0 hW hA hl rfl rfl rfl rfl ⟨by decide, by decide⟩ ⟨by decide, by decide⟩ (Nat.le_of_ble_eq_true rfl) rfl (fun _ => rfl) (fun _ => rfl) (fun r u H locs hp hW => ?_)
  cases hp
  have hW : WD k A s.heap (wModel k a_th th_0) H locs := hW
  refine lv_iconst (v := (1 : Int32)) E.hx E.hb dX9_looksAt_7 ic_1 ?_
  obtain ⟨r_2, hg, hf⟩ := ob hf
  refine k_callVi (As := [.int r_1, .int (1 : Int32)]) (rest := []) (ws2 := fun u => wModel k a_th th_0) (c_X9_process0 n l k a_th th_0 r_1 (1 : Int32) r_2 hg) E vl_X9_120 dX9_looksAt_8 rfl [0, 1, 2, 3, 4, 5, 6, 7, 8, 9, 10, 11, 12] 7 0 hW hA hl rfl rfl rfl rfl ⟨by decide, by decide⟩ ⟨by decide, by decide⟩ (Nat.le_of_ble_eq_true rfl) rfl (fun _ => rfl) (fun _ => rfl) (fun r u H locs hp hW => ?_)
  cases hp
  have hW : WD k A s.heap (wModel k a_th th_0) H locs := hW
  refine lv_if_le (tgt := 20) E.hx E.hb dX9_looksAt_11 (by decide) (fun hc => ?_) (fun hc => ?_)
  · have hf := oT hc hf
    refine k_aload_n E hl 0 dX9_looksAt_20 rfl ?_
    refine k_iload_n E hl 1 dX9_looksAt_21 rfl ?_
    refine lv_iconst (v := (1 : Int32)) E.hx E.hb dX9_looksAt_22 ic_1 ?_
    obtain ⟨r_3, hg, hf⟩ := ob hf
    refine k_callVi (As := [.int v1_0, .int (1 : Int32)]) (rest := []) (ws2 := fun u => wModel k a_th th_0) (c_X9_claim0 n l k a_th th_0 v1_0 (1 : Int32) r_3 hg) E vl_X9_139 dX9_looksAt_23 rfl [0, 1, 2, 3, 4, 5, 6, 7, 8, 9, 10, 11, 12] 7 0 hW hA hl rfl rfl rfl rfl ⟨by decide, by decide⟩ ⟨by decide, by decide⟩ (Nat.le_of_ble_eq_true rfl) rfl (fun _ => rfl) (fun _ => rfl) (fun r u H locs hp hW => ?_)
    cases hp
    have hW : WD k A s.heap (wModel k a_th th_0) H locs := hW
    refine k_aload_n E hl 0 dX9_looksAt_26 rfl ?_
    obtain ⟨r_4, hg, hf⟩ := ob hf
    refine k_callVi (As := []) (rest := [.int r_3]) (ws2 := fun u => wModel k a_th th_0) (c_X9_free n l k a_th th_0 r_4 hg) E vl_X9_166 dX9_looksAt_27 rfl [0, 1, 2, 3, 4, 5, 6, 7, 8, 9, 10, 11, 12] 7 0 hW hA hl rfl rfl rfl rfl ⟨by decide, by decide⟩ ⟨by decide, by decide⟩ (Nat.le_of_ble_eq_true rfl) rfl (fun _ => rfl) (fun _ => rfl) (fun r u H locs hp hW => ?_)
    cases hp
    have hW : WD k A s.heap (wModel k a_th th_0) H locs := hW
    refine lv_isub E.hx E.hb dX9_looksAt_30 ?_
    obtain ⟨v2_5, ev2_5, hf⟩ := oL hf
    refine k_istore_n (lv' := [(2, .int v2_5), (0, .ref (a_th 0)), (1, .int v1_0)]) E ev2_5 hl dX9_looksAt_31 rfl (by decide) rfl (fun ls hl => ?_)
    refine k_iload_n E hl 0 dX9_looksAt_32 rfl ?_
    have J_50 : ∀ (th_j50 : OS) (w2_j50 : Int32) (H : Heap) (locs : List Loc) (ls : Array Slot) (hW : WD k A s.heap (wModel k a_th th_j50) H locs) (hl : lv_has ls 3 [(0, .ref (a_th 0)), (1, .int v1_0), (2, .int w2_j50)]) (hf : j_X9_looksAt_50 n v1_0 th_j50 w2_j50 = some res), W p l e { frames := 4, cells := 0, slots := 0, locals := 90 } s m args below meth c H locs 0 0 Q (F0 m 50 ls []) := by
      intro th_j50 w2_j50 H locs ls hW hl hf
      unfold j_X9_looksAt_50 at hf
      refine k_iload_n E hl 2 dX9_looksAt_50 rfl ?_
      refine lv_if_le (tgt := 59) E.hx E.hb dX9_looksAt_51 (by decide) (fun hc => ?_) (fun hc => ?_)
      · have hf := oT hc hf
        refine k_aload_n E hl 0 dX9_looksAt_59 rfl ?_
        refine k_iload_n E hl 1 dX9_looksAt_60 rfl ?_
        obtain ⟨th_6, hg, hf⟩ := ob hf
        refine k_callVv (As := [.int v1_0]) (rest := []) (ws2 := fun u => wModel k a_th (u)) (c_X9_meets n l k a_th th_j50 v1_0 th_6 hg) E vl_X9_175 dX9_looksAt_61 rfl [0, 1, 2, 3, 4, 5, 6, 7, 8, 9, 10, 11, 12] 7 0 hW hA hl rfl rfl rfl rfl ⟨by decide, by decide⟩ ⟨by decide, by decide⟩ (Nat.le_of_ble_eq_true rfl) rfl (fun _ => rfl) (fun _ => rfl) (fun u H locs hp hW => ?_)
        cases hp
        have hW : WD k A s.heap (wModel k a_th th_6) H locs := hW
        exact hret th_6 _ _ _ _ _ _ hW (Option.some.inj hf).symm (by decide) (by decide) dX9_looksAt_64
      · have hf := oF hc hf
        refine k_aload_n E hl 0 dX9_looksAt_54 rfl ?_
        refine k_iload_n E hl 2 dX9_looksAt_55 rfl ?_
        obtain ⟨th_7, hg, hf⟩ := ob hf
        refine k_callVv (As := [.int w2_j50]) (rest := []) (ws2 := fun u => wModel k a_th (u)) (c_X9_takesBack n l k a_th th_j50 w2_j50 th_7 hg) E vl_X9_172 dX9_looksAt_56 rfl [0, 1, 2, 3, 4, 5, 6, 7, 8, 9, 10, 11, 12] 7 0 hW hA hl rfl rfl rfl rfl ⟨by decide, by decide⟩ ⟨by decide, by decide⟩ (Nat.le_of_ble_eq_true rfl) rfl (fun _ => rfl) (fun _ => rfl) (fun u H locs hp hW => ?_)
        cases hp
        have hW : WD k A s.heap (wModel k a_th th_7) H locs := hW
        refine k_aload_n E hl 0 dX9_looksAt_59 rfl ?_
        refine k_iload_n E hl 1 dX9_looksAt_60 rfl ?_
        obtain ⟨th_8, hg, hf⟩ := ob hf
        refine k_callVv (As := [.int v1_0]) (rest := []) (ws2 := fun u => wModel k a_th (u)) (c_X9_meets n l k a_th th_7 v1_0 th_8 hg) E vl_X9_175 dX9_looksAt_61 rfl [0, 1, 2, 3, 4, 5, 6, 7, 8, 9, 10, 11, 12] 7 0 hW hA hl rfl rfl rfl rfl ⟨by decide, by decide⟩ ⟨by decide, by decide⟩ (Nat.le_of_ble_eq_true rfl) rfl (fun _ => rfl) (fun _ => rfl) (fun u H locs hp hW => ?_)
        cases hp
        have hW : WD k A s.heap (wModel k a_th th_8) H locs := hW
        exact hret th_8 _ _ _ _ _ _ hW (Option.some.inj hf).symm (by decide) (by decide) dX9_looksAt_64
    refine lv_if_le (tgt := 50) E.hx E.hb dX9_looksAt_33 (by decide) (fun hc => ?_) (fun hc => ?_)
    · have hf := oT hc hf
      exact J_50 th_0 v2_5 _ _ _ hW (lv_sub hl [1, 2, 0] rfl) hf
    · have hf := oF hc hf
      refine k_aload_n E hl 1 dX9_looksAt_36 rfl ?_
      obtain ⟨r_9, hg, hf⟩ := ob hf
      refine k_callVi (As := []) (rest := []) (ws2 := fun u => wModel k a_th th_0) (c_X9_brokenPages n l k a_th th_0 r_9 hg) E vl_X9_169 dX9_looksAt_37 rfl [0, 1, 2, 3, 4, 5, 6, 7, 8, 9, 10, 11, 12] 7 0 hW hA hl rfl rfl rfl rfl ⟨by decide, by decide⟩ ⟨by decide, by decide⟩ (Nat.le_of_ble_eq_true rfl) rfl (fun _ => rfl) (fun _ => rfl) (fun r u H locs hp hW => ?_)
      cases hp
      have hW : WD k A s.heap (wModel k a_th th_0) H locs := hW
      refine k_iload_n E hl 0 dX9_looksAt_40 rfl ?_
      refine lv_icmp_ge (tgt := 50) E.hx E.hb dX9_looksAt_41 (by decide) (fun hc => ?_) (fun hc => ?_)
      · have hf := oT hc hf
        exact J_50 th_0 v2_5 _ _ _ hW (lv_sub hl [1, 2, 0] rfl) hf
      · have hf := oF hc hf
        refine k_aload_n E hl 1 dX9_looksAt_44 rfl ?_
        refine k_iload_n E hl 2 dX9_looksAt_45 rfl ?_
        obtain ⟨th_10, hg, hf⟩ := ob hf
        refine k_callVv (As := [.int v1_0]) (rest := []) (ws2 := fun u => wModel k a_th (u)) (c_X9_putsOff n l k a_th th_0 v1_0 th_10 hg) E vl_X9_163 dX9_looksAt_46 rfl [0, 1, 2, 3, 4, 5, 6, 7, 8, 9, 10, 11, 12] 7 0 hW hA hl rfl rfl rfl rfl ⟨by decide, by decide⟩ ⟨by decide, by decide⟩ (Nat.le_of_ble_eq_true rfl) rfl (fun _ => rfl) (fun _ => rfl) (fun u H locs hp hW => ?_)
        cases hp
        have hW : WD k A s.heap (wModel k a_th th_10) H locs := hW
        exact hret th_10 _ _ _ _ _ _ hW (Option.some.inj hf).symm (by decide) (by decide) dX9_looksAt_49
  · have hf := oF hc hf
    refine k_aload_n E hl 0 dX9_looksAt_14 rfl ?_
    refine k_iload_n E hl 1 dX9_looksAt_15 rfl ?_
    obtain ⟨th_11, hg, hf⟩ := ob hf
    refine k_callVv (As := [.int v1_0]) (rest := []) (ws2 := fun u => wModel k a_th (u)) (c_X9_putsOff n l k a_th th_0 v1_0 th_11 hg) E vl_X9_163 dX9_looksAt_16 rfl [0, 1, 2, 3, 4, 5, 6, 7, 8, 9, 10, 11, 12] 7 0 hW hA hl rfl rfl rfl rfl ⟨by decide, by decide⟩ ⟨by decide, by decide⟩ (Nat.le_of_ble_eq_true rfl) rfl (fun _ => rfl) (fun _ => rfl) (fun u H locs hp hW => ?_)
    cases hp
    have hW : WD k A s.heap (wModel k a_th th_11) H locs := hW
    exact hret th_11 _ _ _ _ _ _ hW (Option.some.inj hf).symm (by decide) (by decide) dX9_looksAt_19
def j_X9_hears_32 (n : Nat) (th_j32 : OS) : Option (OS) :=
  gI 1846 (0 : Int32) (Let ((th_j32.2.1 9) (0 : Int32).toNatClampNeg) (fun x_4 : Int32 =>
  gI 1846 (3 : Int32) (Let (sA th_j32 9 (upd (th_j32.2.1 9) (3 : Int32).toNatClampNeg x_4)) (fun th_5 : OS =>
  gI 1846 (2 : Int32) (Let ((th_5.2.1 9) (2 : Int32).toNatClampNeg) (fun x_6 : Int32 =>
  gI 1846 (2 : Int32) (Let (sA th_5 9 (upd (th_5.2.1 9) (2 : Int32).toNatClampNeg (x_6 + (1 : Int32)))) (fun th_7 : OS =>
  some th_7))))))))
def s_X9_hears_11 (n : Nat) (w1_j11 : Int32) (rc_11 : (OS) → (Int32) → Option (OS)) (th_j11 : OS) (w2_j11 : Int32) : Option (OS) :=
  if w1_j11 ≤ w2_j11 then (
  j_X9_hears_32 n th_j11) else (
  gI 60 w2_j11 (Let ((th_j11.2.1 21) w2_j11.toNatClampNeg) (fun x_8 : Int32 =>
  bnd (f_X9_looksAt n th_j11 x_8) (fun (th_9 : OS) =>
  Let (w2_j11 + (1 : Int32)) (fun v2_10 : Int32 =>
  rc_11 th_9 v2_10)))))
def l_X9_hears_11 (n : Nat) (w1_j11 : Int32) : Nat → (OS) → (Int32) → Option (OS)
  | 0 => fun _ _ => none
  | N + 1 => s_X9_hears_11 n w1_j11 (l_X9_hears_11 n w1_j11 N)
def f_X9_hears (n : Nat) (th_0 : OS) : Option (OS) :=
  bnd (f_X9_finesAll n th_0) (fun (th_1 : OS) =>
  bnd2 (f_X9_lines n th_1) (fun (th_2 : OS) (r_3 : Int32) =>
  l_X9_hears_11 n r_3 n th_2 (0 : Int32)))
set_option maxHeartbeats 4000000 in
set_option maxRecDepth 100000 in
theorem c_X9_hears (n : Nat) (l : Launch) (k : KT) (a_th : Nat → Nat) (th_0 : OS) (res : (OS)) (hf : f_X9_hears n th_0 = some res) : CG l k yX9_hears cX9_hears 3 none 5 0 0 112 [.ref (a_th 0)] (wModel k a_th th_0) (Qv k (fun u : OS => wModel k a_th u) (fun u : OS => res = u)) := by
  refine CG.ofV (by decide) (Nat.le_of_ble_eq_true rfl) (fun p e s m args below meth c A Q E hnm hW hA hret ls hl => ?_)
  have hl : lv_has ls 3 [(0, .ref (a_th 0))] := hl
  unfold f_X9_hears at hf
  refine k_aload_n E hl 0 dX9_hears_0 rfl ?_
  obtain ⟨th_1, hg, hf⟩ := ob hf
  refine k_callVv (As := []) (rest := []) (ws2 := fun u => wModel k a_th (u)) (c_X9_finesAll n l k a_th th_0 th_1 hg) E vl_X9_178 dX9_hears_1 rfl [0, 1, 2, 3, 4, 5, 6, 7, 8, 9, 10, 11, 12] 7 0 hW hA hl rfl rfl rfl rfl ⟨by decide, by decide⟩ ⟨by decide, by decide⟩ (Nat.le_of_ble_eq_true rfl) rfl (fun _ => rfl) (fun _ => rfl) (fun u H locs hp hW => ?_)
  cases hp
  have hW : WD k A s.heap (wModel k a_th th_1) H locs := hW
  refine k_aload_n E hl 0 dX9_hears_4 rfl ?_
  obtain ⟨th_2, r_3, hg, hf⟩ := ob2 hf
  refine k_callVi (As := []) (rest := []) (ws2 := fun u => wModel k a_th (u)) (c_X9_lines n l k a_th th_1 (th_2, r_3) hg) E vl_X9_181 dX9_hears_5 rfl [0, 1, 2, 3, 4, 5, 6, 7, 8, 9, 10, 11, 12] 7 0 hW hA hl rfl rfl rfl rfl ⟨by decide, by decide⟩ ⟨by decide, by decide⟩ (Nat.le_of_ble_eq_true rfl) rfl (fun _ => rfl) (fun _ => rfl) (fun r u H locs hp hW => ?_)
  cases hp
  have hW : WD k A s.heap (wModel k a_th th_2) H locs := hW
  refine k_istore_n (lv' := [(1, .int r_3), (0, .ref (a_th 0))]) E rfl hl dX9_hears_8 rfl (by decide) rfl (fun ls hl => ?_)
  refine lv_iconst (v := (0 : Int32)) E.hx E.hb dX9_hears_9 ic_0 ?_
  refine k_istore_n (lv' := [(2, .int (0 : Int32)), (1, .int r_3), (0, .ref (a_th 0))]) E rfl hl dX9_hears_10 rfl (by decide) rfl (fun ls hl => ?_)
  have L_11 : ∀ (N_11 : Nat) (th_j11 : OS) (w2_j11 : Int32) (H : Heap) (locs : List Loc) (ls : Array Slot) (hW : WD k A s.heap (wModel k a_th th_j11) H locs) (hl : lv_has ls 3 [(0, .ref (a_th 0)), (1, .int r_3), (2, .int w2_j11)]) (hf : l_X9_hears_11 n r_3 N_11 th_j11 w2_j11 = some res), W p l e { frames := 5, cells := 0, slots := 0, locals := 112 } s m args below meth c H locs 0 0 Q (F0 m 11 ls []) := by
    intro N_11
    induction N_11 with
    | zero => intro th_j11 w2_j11 H locs ls hW hl hf; exact o0 hf
    | succ N_11 ih_11 =>
      intro th_j11 w2_j11 H locs ls hW hl hf
      have hf : s_X9_hears_11 n r_3 (l_X9_hears_11 n r_3 N_11) th_j11 w2_j11 = some res := hf
      unfold s_X9_hears_11 at hf
      refine k_iload_n E hl 2 dX9_hears_11 rfl ?_
      refine k_iload_n E hl 1 dX9_hears_12 rfl ?_
      have J_32 : ∀ (th_j32 : OS) (H : Heap) (locs : List Loc) (ls : Array Slot) (hW : WD k A s.heap (wModel k a_th th_j32) H locs) (hl : lv_has ls 3 [(0, .ref (a_th 0))]) (hf : j_X9_hears_32 n  th_j32 = some res), W p l e { frames := 5, cells := 0, slots := 0, locals := 112 } s m args below meth c H locs 0 0 Q (F0 m 32 ls []) := by
        intro th_j32 H locs ls hW hl hf
        unfold j_X9_hears_32 at hf
        refine k_aload_n E hl 0 dX9_hears_32 rfl ?_
        refine gf_X9_13 E hW 0 rfl rfl dX9_hears_33 ?_
        refine lv_iconst (v := (3 : Int32)) E.hx E.hb dX9_hears_36 ic_3 ?_
        refine k_aload_n E hl 0 dX9_hears_37 rfl ?_
        refine gf_X9_13 E hW 0 rfl rfl dX9_hears_38 ?_
        refine lv_iconst (v := (0 : Int32)) E.hx E.hb dX9_hears_41 ic_0 ?_
        obtain ⟨hin, hf⟩ := oI hf
        obtain ⟨x_4, ex_4, hf⟩ := oL hf
        refine k_iald E hW 2 rfl hin dX9_hears_42 ?_
        refine k_topi ex_4 ?_
        obtain ⟨hin, hf⟩ := oI hf
        obtain ⟨th_5, eth_5, hf⟩ := oL hf
        refine k_iast (ws2 := wModel k a_th th_5) E hW 2 rfl hin dX9_hears_43 (by rw [eth_5]; rfl) (fun H locs hW => ?_)
        refine k_aload_n E hl 0 dX9_hears_44 rfl ?_
        refine gf_X9_13 E hW 0 rfl rfl dX9_hears_45 ?_
        refine lv_iconst (v := (2 : Int32)) E.hx E.hb dX9_hears_48 ic_2 ?_
        refine k_aload_n E hl 0 dX9_hears_49 rfl ?_
        refine gf_X9_13 E hW 0 rfl rfl dX9_hears_50 ?_
        refine lv_iconst (v := (2 : Int32)) E.hx E.hb dX9_hears_53 ic_2 ?_
        obtain ⟨hin, hf⟩ := oI hf
        obtain ⟨x_6, ex_6, hf⟩ := oL hf
        refine k_iald E hW 2 rfl hin dX9_hears_54 ?_
        refine k_topi ex_6 ?_
        refine lv_iconst (v := (1 : Int32)) E.hx E.hb dX9_hears_55 ic_1 ?_
        refine lv_iadd E.hx E.hb dX9_hears_56 ?_
        obtain ⟨hin, hf⟩ := oI hf
        obtain ⟨th_7, eth_7, hf⟩ := oL hf
        refine k_iast (ws2 := wModel k a_th th_7) E hW 2 rfl hin dX9_hears_57 (by rw [eth_7]; rfl) (fun H locs hW => ?_)
        exact hret th_7 _ _ _ _ _ _ hW (Option.some.inj hf).symm (by decide) (by decide) dX9_hears_58
      refine lv_icmp_ge (tgt := 32) E.hx E.hb dX9_hears_13 (by decide) (fun hc => ?_) (fun hc => ?_)
      · have hf := oT hc hf
        exact J_32 th_j11 _ _ _ hW (lv_sub hl [0] rfl) hf
      · have hf := oF hc hf
        refine k_aload_n E hl 0 dX9_hears_16 rfl ?_
        refine k_aload_n E hl 0 dX9_hears_17 rfl ?_
        refine gf_X9_39 E hW 0 rfl rfl dX9_hears_18 ?_
        refine k_iload_n E hl 2 dX9_hears_21 rfl ?_
        obtain ⟨hin, hf⟩ := oI hf
        obtain ⟨x_8, ex_8, hf⟩ := oL hf
        refine k_iald E hW 8 rfl hin dX9_hears_22 ?_
        refine k_topi ex_8 ?_
        obtain ⟨th_9, hg, hf⟩ := ob hf
        refine k_callVv (As := [.int x_8]) (rest := []) (ws2 := fun u => wModel k a_th (u)) (c_X9_looksAt n l k a_th th_j11 x_8 th_9 hg) E vl_X9_184 dX9_hears_23 rfl [0, 1, 2, 3, 4, 5, 6, 7, 8, 9, 10, 11, 12] 7 0 hW hA hl rfl rfl rfl rfl ⟨by decide, by decide⟩ ⟨by decide, by decide⟩ (Nat.le_of_ble_eq_true rfl) rfl (fun _ => rfl) (fun _ => rfl) (fun u H locs hp hW => ?_)
        cases hp
        have hW : WD k A s.heap (wModel k a_th th_9) H locs := hW
        obtain ⟨v2_10, ev2_10, hf⟩ := oL hf
        refine k_iinc (lv' := [(2, .int v2_10), (0, .ref (a_th 0)), (1, .int r_3)]) E hl 2 dX9_hears_26 rfl (ev2_10.trans (congrArg (fun z => w2_j11 + z) ic_1.symm)) (by decide) rfl (fun ls hl => ?_)
        refine lv_goto (tgt := 11) E.hx E.hb dX9_hears_29 (by decide) ?_
        exact ih_11 th_9 v2_10 _ _ _ hW (lv_sub hl [1, 2, 0] rfl) hf
  exact L_11 n th_2 (0 : Int32) _ _ _ hW (lv_sub hl [2, 1, 0] rfl) hf
def f_X9_wordOf (n : Nat) (v0_0 : Int32) (v1_0 : Int32) : Option (Int32) :=
  some (((1342 : Int32) + ((63 : Int32) * v0_0)) + (v1_0 / (32 : Int32)))
set_option maxHeartbeats 4000000 in
set_option maxRecDepth 100000 in
theorem c_X9_wordOf (n : Nat) (l : Launch) (k : KT)  (v0_0 : Int32) (v1_0 : Int32) (res : (Int32)) (hf : f_X9_wordOf n v0_0 v1_0 = some res) : CG l k yX9_wordOf cX9_wordOf 2 (some .int) 0 0 0 0 [.int v0_0, .int v1_0] ([]) (Qi k (fun u : Unit => []) (fun (r : Int32) (u : Unit) => res = r)) := by
  refine CG.ofI (by decide) (Nat.le_of_ble_eq_true rfl) (fun p e s m args below meth c A Q E hnm hW hA hret ls hl => ?_)
  have hl : lv_has ls 2 [(0, .int v0_0), (1, .int v1_0)] := hl
  unfold f_X9_wordOf at hf
  refine lv_sipush (v := (1342 : Int32)) E.hx E.hb dX9_wordOf_0 sp_1342 ?_
  refine lv_bipush (v := (63 : Int32)) E.hx E.hb dX9_wordOf_3 bp_63 ?_
  refine k_iload_n E hl 0 dX9_wordOf_5 rfl ?_
  refine lv_imul E.hx E.hb dX9_wordOf_6 ?_
  refine lv_iadd E.hx E.hb dX9_wordOf_7 ?_
  refine k_iload_n E hl 1 dX9_wordOf_8 rfl ?_
  refine lv_bipush (v := (32 : Int32)) E.hx E.hb dX9_wordOf_9 bp_32 ?_
  refine lv_idiv E.hx E.hb dX9_wordOf_11 (by decide) ?_
  refine lv_iadd E.hx E.hb dX9_wordOf_12 ?_
  exact hret _ () _ _ _ _ _ _ hW (Option.some.inj hf).symm rfl (by decide) (by decide) dX9_wordOf_13
def f_X9_stands (n : Nat) (th_0 : OS) (v1_0 : Int32) (v2_0 : Int32) : Option (OS) :=
  bnd (f_X9_process0 n th_0 v1_0 (2 : Int32)) (fun (r_1 : Int32) =>
  bnd (f_X9_sets n th_0 v1_0 (2 : Int32) (r_1 - (1 : Int32))) (fun (th_2 : OS) =>
  bnd (f_X9_process0 n th_2 v1_0 (5 : Int32)) (fun (r_3 : Int32) =>
  bnd (f_X9_sets n th_2 v1_0 (5 : Int32) (r_3 + (1 : Int32))) (fun (th_4 : OS) =>
  bnd (f_X9_wordOf n v1_0 v2_0) (fun (r_5 : Int32) =>
  bnd (f_X9_wordOf n v1_0 v2_0) (fun (r_6 : Int32) =>
  gI 1846 r_6 (Let ((th_4.2.1 9) r_6.toNatClampNeg) (fun x_7 : Int32 =>
  gI 1846 r_5 (Let (sA th_4 9 (upd (th_4.2.1 9) r_5.toNatClampNeg (x_7 ||| ((1 : Int32) <<< ((rm32 v2_0 (32 : Int32)) &&& 31))))) (fun th_8 : OS =>
  some th_8))))))))))
set_option maxHeartbeats 4000000 in
set_option maxRecDepth 100000 in
theorem c_X9_stands (n : Nat) (l : Launch) (k : KT) (a_th : Nat → Nat) (th_0 : OS) (v1_0 : Int32) (v2_0 : Int32) (res : (OS)) (hf : f_X9_stands n th_0 v1_0 v2_0 = some res) : CG l k yX9_stands cX9_stands 3 none 1 0 0 23 [.ref (a_th 0), .int v1_0, .int v2_0] (wModel k a_th th_0) (Qv k (fun u : OS => wModel k a_th u) (fun u : OS => res = u)) := by
  refine CG.ofV (by decide) (Nat.le_of_ble_eq_true rfl) (fun p e s m args below meth c A Q E hnm hW hA hret ls hl => ?_)
  have hl : lv_has ls 3 [(0, .ref (a_th 0)), (1, .int v1_0), (2, .int v2_0)] := hl
  unfold f_X9_stands at hf
  refine k_aload_n E hl 0 dX9_stands_0 rfl ?_
  refine k_iload_n E hl 1 dX9_stands_1 rfl ?_
  refine lv_iconst (v := (2 : Int32)) E.hx E.hb dX9_stands_2 ic_2 ?_
  refine k_aload_n E hl 0 dX9_stands_3 rfl ?_
  refine k_iload_n E hl 1 dX9_stands_4 rfl ?_
  refine lv_iconst (v := (2 : Int32)) E.hx E.hb dX9_stands_5 ic_2 ?_
  obtain ⟨r_1, hg, hf⟩ := ob hf
  refine k_callVi (As := [.int v1_0, .int (2 : Int32)]) (rest := [.int (2 : Int32), .int v1_0, .ref (a_th 0)]) (ws2 := fun u => wModel k a_th th_0) (c_X9_process0 n l k a_th th_0 v1_0 (2 : Int32) r_1 hg) E vl_X9_120 dX9_stands_6 rfl [0, 1, 2, 3, 4, 5, 6, 7, 8, 9, 10, 11, 12] 7 0 hW hA hl rfl rfl rfl rfl ⟨by decide, by decide⟩ ⟨by decide, by decide⟩ (Nat.le_of_ble_eq_true rfl) rfl (fun _ => rfl) (fun _ => rfl) (fun r u H locs hp hW => ?_)
  cases hp
  have hW : WD k A s.heap (wModel k a_th th_0) H locs := hW
  refine lv_iconst (v := (1 : Int32)) E.hx E.hb dX9_stands_9 ic_1 ?_
  refine lv_isub E.hx E.hb dX9_stands_10 ?_
  obtain ⟨th_2, hg, hf⟩ := ob hf
  refine k_callVv (As := [.int v1_0, .int (2 : Int32), .int (r_1 - (1 : Int32))]) (rest := []) (ws2 := fun u => wModel k a_th (u)) (c_X9_sets n l k a_th th_0 v1_0 (2 : Int32) (r_1 - (1 : Int32)) th_2 hg) E vl_X9_129 dX9_stands_11 rfl [0, 1, 2, 3, 4, 5, 6, 7, 8, 9, 10, 11, 12] 7 0 hW hA hl rfl rfl rfl rfl ⟨by decide, by decide⟩ ⟨by decide, by decide⟩ (Nat.le_of_ble_eq_true rfl) rfl (fun _ => rfl) (fun _ => rfl) (fun u H locs hp hW => ?_)
  cases hp
  have hW : WD k A s.heap (wModel k a_th th_2) H locs := hW
  refine k_aload_n E hl 0 dX9_stands_14 rfl ?_
  refine k_iload_n E hl 1 dX9_stands_15 rfl ?_
  refine lv_iconst (v := (5 : Int32)) E.hx E.hb dX9_stands_16 ic_5 ?_
  refine k_aload_n E hl 0 dX9_stands_17 rfl ?_
  refine k_iload_n E hl 1 dX9_stands_18 rfl ?_
  refine lv_iconst (v := (5 : Int32)) E.hx E.hb dX9_stands_19 ic_5 ?_
  obtain ⟨r_3, hg, hf⟩ := ob hf
  refine k_callVi (As := [.int v1_0, .int (5 : Int32)]) (rest := [.int (5 : Int32), .int v1_0, .ref (a_th 0)]) (ws2 := fun u => wModel k a_th th_2) (c_X9_process0 n l k a_th th_2 v1_0 (5 : Int32) r_3 hg) E vl_X9_120 dX9_stands_20 rfl [0, 1, 2, 3, 4, 5, 6, 7, 8, 9, 10, 11, 12] 7 0 hW hA hl rfl rfl rfl rfl ⟨by decide, by decide⟩ ⟨by decide, by decide⟩ (Nat.le_of_ble_eq_true rfl) rfl (fun _ => rfl) (fun _ => rfl) (fun r u H locs hp hW => ?_)
  cases hp
  have hW : WD k A s.heap (wModel k a_th th_2) H locs := hW
  refine lv_iconst (v := (1 : Int32)) E.hx E.hb dX9_stands_23 ic_1 ?_
  refine lv_iadd E.hx E.hb dX9_stands_24 ?_
  obtain ⟨th_4, hg, hf⟩ := ob hf
  refine k_callVv (As := [.int v1_0, .int (5 : Int32), .int (r_3 + (1 : Int32))]) (rest := []) (ws2 := fun u => wModel k a_th (u)) (c_X9_sets n l k a_th th_2 v1_0 (5 : Int32) (r_3 + (1 : Int32)) th_4 hg) E vl_X9_129 dX9_stands_25 rfl [0, 1, 2, 3, 4, 5, 6, 7, 8, 9, 10, 11, 12] 7 0 hW hA hl rfl rfl rfl rfl ⟨by decide, by decide⟩ ⟨by decide, by decide⟩ (Nat.le_of_ble_eq_true rfl) rfl (fun _ => rfl) (fun _ => rfl) (fun u H locs hp hW => ?_)
  cases hp
  have hW : WD k A s.heap (wModel k a_th th_4) H locs := hW
  refine k_aload_n E hl 0 dX9_stands_28 rfl ?_
  refine gf_X9_13 E hW 0 rfl rfl dX9_stands_29 ?_
  refine k_iload_n E hl 1 dX9_stands_32 rfl ?_
  refine k_iload_n E hl 2 dX9_stands_33 rfl ?_
  obtain ⟨r_5, hg, hf⟩ := ob hf
  refine k_callSi (As := [.int v1_0, .int v2_0]) (rest := [.ref (a_th 2)]) (ws2 := fun u => wModel k a_th th_4) (c_X9_wordOf n l k v1_0 v2_0 r_5 hg) E sl_X9_199 dX9_stands_34 rfl [] hW hA hl rfl rfl ⟨by decide, by decide⟩ ⟨by decide, by decide⟩ (Nat.le_of_ble_eq_true rfl) rfl (fun _ => rfl) (fun _ => rfl) (fun r u H locs hp hW => ?_)
  cases hp
  have hW : WD k A s.heap (wModel k a_th th_4) H locs := hW
  refine k_aload_n E hl 0 dX9_stands_37 rfl ?_
  refine gf_X9_13 E hW 0 rfl rfl dX9_stands_38 ?_
  refine k_iload_n E hl 1 dX9_stands_41 rfl ?_
  refine k_iload_n E hl 2 dX9_stands_42 rfl ?_
  obtain ⟨r_6, hg, hf⟩ := ob hf
  refine k_callSi (As := [.int v1_0, .int v2_0]) (rest := [.ref (a_th 2), .int r_5, .ref (a_th 2)]) (ws2 := fun u => wModel k a_th th_4) (c_X9_wordOf n l k v1_0 v2_0 r_6 hg) E sl_X9_199 dX9_stands_43 rfl [] hW hA hl rfl rfl ⟨by decide, by decide⟩ ⟨by decide, by decide⟩ (Nat.le_of_ble_eq_true rfl) rfl (fun _ => rfl) (fun _ => rfl) (fun r u H locs hp hW => ?_)
  cases hp
  have hW : WD k A s.heap (wModel k a_th th_4) H locs := hW
  obtain ⟨hin, hf⟩ := oI hf
  obtain ⟨x_7, ex_7, hf⟩ := oL hf
  refine k_iald E hW 2 rfl hin dX9_stands_46 ?_
  refine k_topi ex_7 ?_
  refine lv_iconst (v := (1 : Int32)) E.hx E.hb dX9_stands_47 ic_1 ?_
  refine k_iload_n E hl 2 dX9_stands_48 rfl ?_
  refine lv_bipush (v := (32 : Int32)) E.hx E.hb dX9_stands_49 bp_32 ?_
  refine lv_irem E.hx E.hb dX9_stands_51 (by decide) ?_
  refine lv_ishl E.hx E.hb dX9_stands_52 ?_
  refine lv_ior E.hx E.hb dX9_stands_53 ?_
  obtain ⟨hin, hf⟩ := oI hf
  obtain ⟨th_8, eth_8, hf⟩ := oL hf
  refine k_iast (ws2 := wModel k a_th th_8) E hW 2 rfl hin dX9_stands_54 (by rw [eth_8]; rfl) (fun H locs hW => ?_)
  exact hret th_8 _ _ _ _ _ _ hW (Option.some.inj hf).symm (by decide) (by decide) dX9_stands_55
def j_X9_ticks_93 (n : Nat) (th_j93 : OS) (w1_j93 : Int32) : Option (OS) :=
  oN ((th_j93.1 3) = 0) (
  if (rm32 w1_j93 (th_j93.1 3)) = 0 then (
  bnd (f_X9_hears n th_j93) (fun (th_4 : OS) =>
  some th_4)) else (
  some th_j93))
def j_X9_ticks_64 (n : Nat) (w1_j18 : Int32) (rc_18 : (OS) → (Int32) → Option (OS)) (th_j64 : OS) (w2_j64 : Int32) : Option (OS) :=
  oN ((th_j64.1 5) = 0) (
  if (rm32 w1_j18 (th_j64.1 5)) = 0 then (
  bnd (f_X9_process0 n th_j64 w2_j64 (0 : Int32)) (fun (r_8 : Int32) =>
  bnd (f_X9_sets n th_j64 w2_j64 (0 : Int32) (r_8 / (2 : Int32))) (fun (th_9 : OS) =>
  Let (w2_j64 + (1 : Int32)) (fun v2_10 : Int32 =>
  rc_18 th_9 v2_10)))) else (
  Let (w2_j64 + (1 : Int32)) (fun v2_7 : Int32 =>
  rc_18 th_j64 v2_7)))
def j_X9_ticks_41 (n : Nat) (w1_j18 : Int32) (rc_18 : (OS) → (Int32) → Option (OS)) (th_j41 : OS) (w2_j41 : Int32) : Option (OS) :=
  bnd (f_X9_process0 n th_j41 w2_j41 (1 : Int32)) (fun (r_6 : Int32) =>
  if r_6 ≤ 0 then (
  j_X9_ticks_64 n w1_j18 rc_18 th_j41 w2_j41) else (
  bnd (f_X9_process0 n th_j41 w2_j41 (1 : Int32)) (fun (r_11 : Int32) =>
  bnd (f_X9_sets n th_j41 w2_j41 (1 : Int32) (r_11 - (1 : Int32))) (fun (th_12 : OS) =>
  j_X9_ticks_64 n w1_j18 rc_18 th_12 w2_j41))))
def s_X9_ticks_18 (n : Nat) (w1_j18 : Int32) (rc_18 : (OS) → (Int32) → Option (OS)) (th_j18 : OS) (w2_j18 : Int32) : Option (OS) :=
  if (th_j18.1 2) ≤ w2_j18 then (
  j_X9_ticks_93 n th_j18 w1_j18) else (
  bnd (f_X9_process0 n th_j18 w2_j18 (2 : Int32)) (fun (r_5 : Int32) =>
  if r_5 ≤ 0 then (
  j_X9_ticks_41 n w1_j18 rc_18 th_j18 w2_j18) else (
  bnd (f_X9_stands n th_j18 w2_j18 w1_j18) (fun (th_13 : OS) =>
  j_X9_ticks_41 n w1_j18 rc_18 th_13 w2_j18))))
def l_X9_ticks_18 (n : Nat) (w1_j18 : Int32) : Nat → (OS) → (Int32) → Option (OS)
  | 0 => fun _ _ => none
  | N + 1 => s_X9_ticks_18 n w1_j18 (l_X9_ticks_18 n w1_j18 N)
def f_X9_ticks (n : Nat) (th_0 : OS) : Option (OS) :=
  gI 1846 (0 : Int32) (Let ((th_0.2.1 9) (0 : Int32).toNatClampNeg) (fun x_1 : Int32 =>
  Let (x_1 + (1 : Int32)) (fun v1_2 : Int32 =>
  gI 1846 (0 : Int32) (Let (sA th_0 9 (upd (th_0.2.1 9) (0 : Int32).toNatClampNeg v1_2)) (fun th_3 : OS =>
  l_X9_ticks_18 n v1_2 n th_3 (0 : Int32))))))
set_option maxHeartbeats 4000000 in
set_option maxRecDepth 100000 in
theorem c_X9_ticks (n : Nat) (l : Launch) (k : KT) (a_th : Nat → Nat) (th_0 : OS) (res : (OS)) (hf : f_X9_ticks n th_0 = some res) : CG l k yX9_ticks cX9_ticks 3 none 6 0 0 134 [.ref (a_th 0)] (wModel k a_th th_0) (Qv k (fun u : OS => wModel k a_th u) (fun u : OS => res = u)) := by
  refine CG.ofV (by decide) (Nat.le_of_ble_eq_true rfl) (fun p e s m args below meth c A Q E hnm hW hA hret ls hl => ?_)
  have hl : lv_has ls 3 [(0, .ref (a_th 0))] := hl
  unfold f_X9_ticks at hf
  refine k_aload_n E hl 0 dX9_ticks_0 rfl ?_
  refine gf_X9_13 E hW 0 rfl rfl dX9_ticks_1 ?_
  refine lv_iconst (v := (0 : Int32)) E.hx E.hb dX9_ticks_4 ic_0 ?_
  obtain ⟨hin, hf⟩ := oI hf
  obtain ⟨x_1, ex_1, hf⟩ := oL hf
  refine k_iald E hW 2 rfl hin dX9_ticks_5 ?_
  refine k_topi ex_1 ?_
  refine lv_iconst (v := (1 : Int32)) E.hx E.hb dX9_ticks_6 ic_1 ?_
  refine lv_iadd E.hx E.hb dX9_ticks_7 ?_
  obtain ⟨v1_2, ev1_2, hf⟩ := oL hf
  refine k_istore_n (lv' := [(1, .int v1_2), (0, .ref (a_th 0))]) E ev1_2 hl dX9_ticks_8 rfl (by decide) rfl (fun ls hl => ?_)
  refine k_aload_n E hl 1 dX9_ticks_9 rfl ?_
  refine gf_X9_13 E hW 0 rfl rfl dX9_ticks_10 ?_
  refine lv_iconst (v := (0 : Int32)) E.hx E.hb dX9_ticks_13 ic_0 ?_
  refine k_iload_n E hl 0 dX9_ticks_14 rfl ?_
  obtain ⟨hin, hf⟩ := oI hf
  obtain ⟨th_3, eth_3, hf⟩ := oL hf
  refine k_iast (ws2 := wModel k a_th th_3) E hW 2 rfl hin dX9_ticks_15 (by rw [eth_3]; rfl) (fun H locs hW => ?_)
  refine lv_iconst (v := (0 : Int32)) E.hx E.hb dX9_ticks_16 ic_0 ?_
  refine k_istore_n (lv' := [(2, .int (0 : Int32)), (1, .int v1_2), (0, .ref (a_th 0))]) E rfl hl dX9_ticks_17 rfl (by decide) rfl (fun ls hl => ?_)
  have L_18 : ∀ (N_18 : Nat) (th_j18 : OS) (w2_j18 : Int32) (H : Heap) (locs : List Loc) (ls : Array Slot) (hW : WD k A s.heap (wModel k a_th th_j18) H locs) (hl : lv_has ls 3 [(0, .ref (a_th 0)), (1, .int v1_2), (2, .int w2_j18)]) (hf : l_X9_ticks_18 n v1_2 N_18 th_j18 w2_j18 = some res), W p l e { frames := 6, cells := 0, slots := 0, locals := 134 } s m args below meth c H locs 0 0 Q (F0 m 18 ls []) := by
    intro N_18
    induction N_18 with
    | zero => intro th_j18 w2_j18 H locs ls hW hl hf; exact o0 hf
    | succ N_18 ih_18 =>
      intro th_j18 w2_j18 H locs ls hW hl hf
      have hf : s_X9_ticks_18 n v1_2 (l_X9_ticks_18 n v1_2 N_18) th_j18 w2_j18 = some res := hf
      unfold s_X9_ticks_18 at hf
      refine k_iload_n E hl 2 dX9_ticks_18 rfl ?_
      refine k_aload_n E hl 0 dX9_ticks_19 rfl ?_
      refine gf_X9_89 E hW 0 rfl rfl dX9_ticks_20 ?_
      have J_93 : ∀ (th_j93 : OS) (w1_j93 : Int32) (H : Heap) (locs : List Loc) (ls : Array Slot) (hW : WD k A s.heap (wModel k a_th th_j93) H locs) (hl : lv_has ls 3 [(0, .ref (a_th 0)), (1, .int w1_j93)]) (hf : j_X9_ticks_93 n  th_j93 w1_j93 = some res), W p l e { frames := 6, cells := 0, slots := 0, locals := 134 } s m args below meth c H locs 0 0 Q (F0 m 93 ls []) := by
        intro th_j93 w1_j93 H locs ls hW hl hf
        unfold j_X9_ticks_93 at hf
        refine k_iload_n E hl 1 dX9_ticks_93 rfl ?_
        refine k_aload_n E hl 0 dX9_ticks_94 rfl ?_
        refine gf_X9_193 E hW 0 rfl rfl dX9_ticks_95 ?_
        obtain ⟨hz, hf⟩ := oG hf
        refine lv_irem E.hx E.hb dX9_ticks_98 hz ?_
        refine lv_if_ne (tgt := 106) E.hx E.hb dX9_ticks_99 (by decide) (fun hc => ?_) (fun hc => ?_)
        · have hf := oF hc hf
          exact hret th_j93 _ _ _ _ _ _ hW (Option.some.inj hf).symm (by decide) (by decide) dX9_ticks_106
        · have hf := oT hc hf
          refine k_aload_n E hl 0 dX9_ticks_102 rfl ?_
          obtain ⟨th_4, hg, hf⟩ := ob hf
          refine k_callVv (As := []) (rest := []) (ws2 := fun u => wModel k a_th (u)) (c_X9_hears n l k a_th th_j93 th_4 hg) E vl_X9_196 dX9_ticks_103 rfl [0, 1, 2, 3, 4, 5, 6, 7, 8, 9, 10, 11, 12] 7 0 hW hA hl rfl rfl rfl rfl ⟨by decide, by decide⟩ ⟨by decide, by decide⟩ (Nat.le_of_ble_eq_true rfl) rfl (fun _ => rfl) (fun _ => rfl) (fun u H locs hp hW => ?_)
          cases hp
          have hW : WD k A s.heap (wModel k a_th th_4) H locs := hW
          exact hret th_4 _ _ _ _ _ _ hW (Option.some.inj hf).symm (by decide) (by decide) dX9_ticks_106
      refine lv_icmp_ge (tgt := 93) E.hx E.hb dX9_ticks_23 (by decide) (fun hc => ?_) (fun hc => ?_)
      · have hf := oT hc hf
        exact J_93 th_j18 v1_2 _ _ _ hW (lv_sub hl [0, 1] rfl) hf
      · have hf := oF hc hf
        refine k_aload_n E hl 0 dX9_ticks_26 rfl ?_
        refine k_iload_n E hl 2 dX9_ticks_27 rfl ?_
        refine lv_iconst (v := (2 : Int32)) E.hx E.hb dX9_ticks_28 ic_2 ?_
        obtain ⟨r_5, hg, hf⟩ := ob hf
        refine k_callVi (As := [.int w2_j18, .int (2 : Int32)]) (rest := []) (ws2 := fun u => wModel k a_th th_j18) (c_X9_process0 n l k a_th th_j18 w2_j18 (2 : Int32) r_5 hg) E vl_X9_120 dX9_ticks_29 rfl [0, 1, 2, 3, 4, 5, 6, 7, 8, 9, 10, 11, 12] 7 0 hW hA hl rfl rfl rfl rfl ⟨by decide, by decide⟩ ⟨by decide, by decide⟩ (Nat.le_of_ble_eq_true rfl) rfl (fun _ => rfl) (fun _ => rfl) (fun r u H locs hp hW => ?_)
        cases hp
        have hW : WD k A s.heap (wModel k a_th th_j18) H locs := hW
        have J_41 : ∀ (th_j41 : OS) (w2_j41 : Int32) (H : Heap) (locs : List Loc) (ls : Array Slot) (hW : WD k A s.heap (wModel k a_th th_j41) H locs) (hl : lv_has ls 3 [(0, .ref (a_th 0)), (1, .int v1_2), (2, .int w2_j41)]) (hf : j_X9_ticks_41 n v1_2 (l_X9_ticks_18 n v1_2 N_18) th_j41 w2_j41 = some res), W p l e { frames := 6, cells := 0, slots := 0, locals := 134 } s m args below meth c H locs 0 0 Q (F0 m 41 ls []) := by
          intro th_j41 w2_j41 H locs ls hW hl hf
          unfold j_X9_ticks_41 at hf
          refine k_aload_n E hl 0 dX9_ticks_41 rfl ?_
          refine k_iload_n E hl 2 dX9_ticks_42 rfl ?_
          refine lv_iconst (v := (1 : Int32)) E.hx E.hb dX9_ticks_43 ic_1 ?_
          obtain ⟨r_6, hg, hf⟩ := ob hf
          refine k_callVi (As := [.int w2_j41, .int (1 : Int32)]) (rest := []) (ws2 := fun u => wModel k a_th th_j41) (c_X9_process0 n l k a_th th_j41 w2_j41 (1 : Int32) r_6 hg) E vl_X9_120 dX9_ticks_44 rfl [0, 1, 2, 3, 4, 5, 6, 7, 8, 9, 10, 11, 12] 7 0 hW hA hl rfl rfl rfl rfl ⟨by decide, by decide⟩ ⟨by decide, by decide⟩ (Nat.le_of_ble_eq_true rfl) rfl (fun _ => rfl) (fun _ => rfl) (fun r u H locs hp hW => ?_)
          cases hp
          have hW : WD k A s.heap (wModel k a_th th_j41) H locs := hW
          have J_64 : ∀ (th_j64 : OS) (w2_j64 : Int32) (H : Heap) (locs : List Loc) (ls : Array Slot) (hW : WD k A s.heap (wModel k a_th th_j64) H locs) (hl : lv_has ls 3 [(0, .ref (a_th 0)), (1, .int v1_2), (2, .int w2_j64)]) (hf : j_X9_ticks_64 n v1_2 (l_X9_ticks_18 n v1_2 N_18) th_j64 w2_j64 = some res), W p l e { frames := 6, cells := 0, slots := 0, locals := 134 } s m args below meth c H locs 0 0 Q (F0 m 64 ls []) := by
            intro th_j64 w2_j64 H locs ls hW hl hf
            unfold j_X9_ticks_64 at hf
            refine k_iload_n E hl 1 dX9_ticks_64 rfl ?_
            refine k_aload_n E hl 0 dX9_ticks_65 rfl ?_
            refine gf_X9_190 E hW 0 rfl rfl dX9_ticks_66 ?_
            obtain ⟨hz, hf⟩ := oG hf
            refine lv_irem E.hx E.hb dX9_ticks_69 hz ?_
            refine lv_if_ne (tgt := 87) E.hx E.hb dX9_ticks_70 (by decide) (fun hc => ?_) (fun hc => ?_)
            · have hf := oF hc hf
              obtain ⟨v2_7, ev2_7, hf⟩ := oL hf
              refine k_iinc (lv' := [(2, .int v2_7), (0, .ref (a_th 0)), (1, .int v1_2)]) E hl 2 dX9_ticks_87 rfl (ev2_7.trans (congrArg (fun z => w2_j64 + z) ic_1.symm)) (by decide) rfl (fun ls hl => ?_)
              refine lv_goto (tgt := 18) E.hx E.hb dX9_ticks_90 (by decide) ?_
              exact ih_18 th_j64 v2_7 _ _ _ hW (lv_sub hl [1, 2, 0] rfl) hf
            · have hf := oT hc hf
              refine k_aload_n E hl 0 dX9_ticks_73 rfl ?_
              refine k_iload_n E hl 2 dX9_ticks_74 rfl ?_
              refine lv_iconst (v := (0 : Int32)) E.hx E.hb dX9_ticks_75 ic_0 ?_
              refine k_aload_n E hl 0 dX9_ticks_76 rfl ?_
              refine k_iload_n E hl 2 dX9_ticks_77 rfl ?_
              refine lv_iconst (v := (0 : Int32)) E.hx E.hb dX9_ticks_78 ic_0 ?_
              obtain ⟨r_8, hg, hf⟩ := ob hf
              refine k_callVi (As := [.int w2_j64, .int (0 : Int32)]) (rest := [.int (0 : Int32), .int w2_j64, .ref (a_th 0)]) (ws2 := fun u => wModel k a_th th_j64) (c_X9_process0 n l k a_th th_j64 w2_j64 (0 : Int32) r_8 hg) E vl_X9_120 dX9_ticks_79 rfl [0, 1, 2, 3, 4, 5, 6, 7, 8, 9, 10, 11, 12] 7 0 hW hA hl rfl rfl rfl rfl ⟨by decide, by decide⟩ ⟨by decide, by decide⟩ (Nat.le_of_ble_eq_true rfl) rfl (fun _ => rfl) (fun _ => rfl) (fun r u H locs hp hW => ?_)
              cases hp
              have hW : WD k A s.heap (wModel k a_th th_j64) H locs := hW
              refine lv_iconst (v := (2 : Int32)) E.hx E.hb dX9_ticks_82 ic_2 ?_
              refine lv_idiv E.hx E.hb dX9_ticks_83 (by decide) ?_
              obtain ⟨th_9, hg, hf⟩ := ob hf
              refine k_callVv (As := [.int w2_j64, .int (0 : Int32), .int (r_8 / (2 : Int32))]) (rest := []) (ws2 := fun u => wModel k a_th (u)) (c_X9_sets n l k a_th th_j64 w2_j64 (0 : Int32) (r_8 / (2 : Int32)) th_9 hg) E vl_X9_129 dX9_ticks_84 rfl [0, 1, 2, 3, 4, 5, 6, 7, 8, 9, 10, 11, 12] 7 0 hW hA hl rfl rfl rfl rfl ⟨by decide, by decide⟩ ⟨by decide, by decide⟩ (Nat.le_of_ble_eq_true rfl) rfl (fun _ => rfl) (fun _ => rfl) (fun u H locs hp hW => ?_)
              cases hp
              have hW : WD k A s.heap (wModel k a_th th_9) H locs := hW
              obtain ⟨v2_10, ev2_10, hf⟩ := oL hf
              refine k_iinc (lv' := [(2, .int v2_10), (0, .ref (a_th 0)), (1, .int v1_2)]) E hl 2 dX9_ticks_87 rfl (ev2_10.trans (congrArg (fun z => w2_j64 + z) ic_1.symm)) (by decide) rfl (fun ls hl => ?_)
              refine lv_goto (tgt := 18) E.hx E.hb dX9_ticks_90 (by decide) ?_
              exact ih_18 th_9 v2_10 _ _ _ hW (lv_sub hl [1, 2, 0] rfl) hf
          refine lv_if_le (tgt := 64) E.hx E.hb dX9_ticks_47 (by decide) (fun hc => ?_) (fun hc => ?_)
          · have hf := oT hc hf
            exact J_64 th_j41 w2_j41 _ _ _ hW (lv_sub hl [0, 1, 2] rfl) hf
          · have hf := oF hc hf
            refine k_aload_n E hl 0 dX9_ticks_50 rfl ?_
            refine k_iload_n E hl 2 dX9_ticks_51 rfl ?_
            refine lv_iconst (v := (1 : Int32)) E.hx E.hb dX9_ticks_52 ic_1 ?_
            refine k_aload_n E hl 0 dX9_ticks_53 rfl ?_
            refine k_iload_n E hl 2 dX9_ticks_54 rfl ?_
            refine lv_iconst (v := (1 : Int32)) E.hx E.hb dX9_ticks_55 ic_1 ?_
            obtain ⟨r_11, hg, hf⟩ := ob hf
            refine k_callVi (As := [.int w2_j41, .int (1 : Int32)]) (rest := [.int (1 : Int32), .int w2_j41, .ref (a_th 0)]) (ws2 := fun u => wModel k a_th th_j41) (c_X9_process0 n l k a_th th_j41 w2_j41 (1 : Int32) r_11 hg) E vl_X9_120 dX9_ticks_56 rfl [0, 1, 2, 3, 4, 5, 6, 7, 8, 9, 10, 11, 12] 7 0 hW hA hl rfl rfl rfl rfl ⟨by decide, by decide⟩ ⟨by decide, by decide⟩ (Nat.le_of_ble_eq_true rfl) rfl (fun _ => rfl) (fun _ => rfl) (fun r u H locs hp hW => ?_)
            cases hp
            have hW : WD k A s.heap (wModel k a_th th_j41) H locs := hW
            refine lv_iconst (v := (1 : Int32)) E.hx E.hb dX9_ticks_59 ic_1 ?_
            refine lv_isub E.hx E.hb dX9_ticks_60 ?_
            obtain ⟨th_12, hg, hf⟩ := ob hf
            refine k_callVv (As := [.int w2_j41, .int (1 : Int32), .int (r_11 - (1 : Int32))]) (rest := []) (ws2 := fun u => wModel k a_th (u)) (c_X9_sets n l k a_th th_j41 w2_j41 (1 : Int32) (r_11 - (1 : Int32)) th_12 hg) E vl_X9_129 dX9_ticks_61 rfl [0, 1, 2, 3, 4, 5, 6, 7, 8, 9, 10, 11, 12] 7 0 hW hA hl rfl rfl rfl rfl ⟨by decide, by decide⟩ ⟨by decide, by decide⟩ (Nat.le_of_ble_eq_true rfl) rfl (fun _ => rfl) (fun _ => rfl) (fun u H locs hp hW => ?_)
            cases hp
            have hW : WD k A s.heap (wModel k a_th th_12) H locs := hW
            exact J_64 th_12 w2_j41 _ _ _ hW (lv_sub hl [0, 1, 2] rfl) hf
        refine lv_if_le (tgt := 41) E.hx E.hb dX9_ticks_32 (by decide) (fun hc => ?_) (fun hc => ?_)
        · have hf := oT hc hf
          exact J_41 th_j18 w2_j18 _ _ _ hW (lv_sub hl [0, 1, 2] rfl) hf
        · have hf := oF hc hf
          refine k_aload_n E hl 0 dX9_ticks_35 rfl ?_
          refine k_iload_n E hl 2 dX9_ticks_36 rfl ?_
          refine k_iload_n E hl 1 dX9_ticks_37 rfl ?_
          obtain ⟨th_13, hg, hf⟩ := ob hf
          refine k_callVv (As := [.int w2_j18, .int v1_2]) (rest := []) (ws2 := fun u => wModel k a_th (u)) (c_X9_stands n l k a_th th_j18 w2_j18 v1_2 th_13 hg) E vl_X9_187 dX9_ticks_38 rfl [0, 1, 2, 3, 4, 5, 6, 7, 8, 9, 10, 11, 12] 7 0 hW hA hl rfl rfl rfl rfl ⟨by decide, by decide⟩ ⟨by decide, by decide⟩ (Nat.le_of_ble_eq_true rfl) rfl (fun _ => rfl) (fun _ => rfl) (fun u H locs hp hW => ?_)
          cases hp
          have hW : WD k A s.heap (wModel k a_th th_13) H locs := hW
          exact J_41 th_13 w2_j18 _ _ _ hW (lv_sub hl [0, 1, 2] rfl) hf
  exact L_18 n th_3 (0 : Int32) _ _ _ hW (lv_sub hl [2, 1, 0] rfl) hf
def s_X9_goesOn_10 (n : Nat) (w1_j10 : Int32) (w2_j10 : Int32) (rc_10 : (OS) → (Int32) → Option (OS × Int32)) (th_j10 : OS) (w3_j10 : Int32) : Option (OS × Int32) :=
  if w1_j10 ≤ w3_j10 then (
  gI 1846 (8 : Int32) (Let ((th_j10.2.1 9) (8 : Int32).toNatClampNeg) (fun x_2 : Int32 =>
  some (th_j10, (x_2 - w2_j10))))) else (
  gI 1846 (0 : Int32) (Let ((th_j10.2.1 9) (0 : Int32).toNatClampNeg) (fun x_3 : Int32 =>
  if (2000 : Int32) ≤ x_3 then (
  gI 1846 (8 : Int32) (Let ((th_j10.2.1 9) (8 : Int32).toNatClampNeg) (fun x_4 : Int32 =>
  some (th_j10, (x_4 - w2_j10))))) else (
  bnd (f_X9_ticks n th_j10) (fun (th_5 : OS) =>
  Let (w3_j10 + (1 : Int32)) (fun v3_6 : Int32 =>
  rc_10 th_5 v3_6))))))
def l_X9_goesOn_10 (n : Nat) (w1_j10 : Int32) (w2_j10 : Int32) : Nat → (OS) → (Int32) → Option (OS × Int32)
  | 0 => fun _ _ => none
  | N + 1 => s_X9_goesOn_10 n w1_j10 w2_j10 (l_X9_goesOn_10 n w1_j10 w2_j10 N)
def f_X9_goesOn (n : Nat) (th_0 : OS) (v1_0 : Int32) : Option (OS × Int32) :=
  gI 1846 (8 : Int32) (Let ((th_0.2.1 9) (8 : Int32).toNatClampNeg) (fun x_1 : Int32 =>
  l_X9_goesOn_10 n v1_0 x_1 n th_0 (0 : Int32)))
set_option maxHeartbeats 4000000 in
set_option maxRecDepth 100000 in
theorem c_X9_goesOn (n : Nat) (l : Launch) (k : KT) (a_th : Nat → Nat) (th_0 : OS) (v1_0 : Int32) (res : (OS × Int32)) (hf : f_X9_goesOn n th_0 v1_0 = some res) : CG l k yX9_goesOn cX9_goesOn 4 (some .int) 7 0 0 156 [.ref (a_th 0), .int v1_0] (wModel k a_th th_0) (Qi k (fun u : OS => wModel k a_th u) (fun (r : Int32) (u : OS) => res = (u, r))) := by
  refine CG.ofI (by decide) (Nat.le_of_ble_eq_true rfl) (fun p e s m args below meth c A Q E hnm hW hA hret ls hl => ?_)
  have hl : lv_has ls 4 [(0, .ref (a_th 0)), (1, .int v1_0)] := hl
  unfold f_X9_goesOn at hf
  refine k_aload_n E hl 0 dX9_goesOn_0 rfl ?_
  refine gf_X9_13 E hW 0 rfl rfl dX9_goesOn_1 ?_
  refine lv_bipush (v := (8 : Int32)) E.hx E.hb dX9_goesOn_4 bp_8 ?_
  obtain ⟨hin, hf⟩ := oI hf
  obtain ⟨x_1, ex_1, hf⟩ := oL hf
  refine k_iald E hW 2 rfl hin dX9_goesOn_6 ?_
  refine k_topi ex_1 ?_
  refine k_istore_n (lv' := [(2, .int x_1), (0, .ref (a_th 0)), (1, .int v1_0)]) E rfl hl dX9_goesOn_7 rfl (by decide) rfl (fun ls hl => ?_)
  refine lv_iconst (v := (0 : Int32)) E.hx E.hb dX9_goesOn_8 ic_0 ?_
  refine k_istore_n (lv' := [(3, .int (0 : Int32)), (2, .int x_1), (0, .ref (a_th 0)), (1, .int v1_0)]) E rfl hl dX9_goesOn_9 rfl (by decide) rfl (fun ls hl => ?_)
  have L_10 : ∀ (N_10 : Nat) (th_j10 : OS) (w3_j10 : Int32) (H : Heap) (locs : List Loc) (ls : Array Slot) (hW : WD k A s.heap (wModel k a_th th_j10) H locs) (hl : lv_has ls 4 [(0, .ref (a_th 0)), (1, .int v1_0), (2, .int x_1), (3, .int w3_j10)]) (hf : l_X9_goesOn_10 n v1_0 x_1 N_10 th_j10 w3_j10 = some res), W p l e { frames := 7, cells := 0, slots := 0, locals := 156 } s m args below meth c H locs 0 0 Q (F0 m 10 ls []) := by
    intro N_10
    induction N_10 with
    | zero => intro th_j10 w3_j10 H locs ls hW hl hf; exact o0 hf
    | succ N_10 ih_10 =>
      intro th_j10 w3_j10 H locs ls hW hl hf
      have hf : s_X9_goesOn_10 n v1_0 x_1 (l_X9_goesOn_10 n v1_0 x_1 N_10) th_j10 w3_j10 = some res := hf
      unfold s_X9_goesOn_10 at hf
      refine k_iload_n E hl 3 dX9_goesOn_10 rfl ?_
      refine k_iload_n E hl 1 dX9_goesOn_11 rfl ?_
      refine lv_icmp_ge (tgt := 37) E.hx E.hb dX9_goesOn_12 (by decide) (fun hc => ?_) (fun hc => ?_)
      · have hf := oT hc hf
        refine k_aload_n E hl 0 dX9_goesOn_37 rfl ?_
        refine gf_X9_13 E hW 0 rfl rfl dX9_goesOn_38 ?_
        refine lv_bipush (v := (8 : Int32)) E.hx E.hb dX9_goesOn_41 bp_8 ?_
        obtain ⟨hin, hf⟩ := oI hf
        obtain ⟨x_2, ex_2, hf⟩ := oL hf
        refine k_iald E hW 2 rfl hin dX9_goesOn_43 ?_
        refine k_topi ex_2 ?_
        refine k_iload_n E hl 2 dX9_goesOn_44 rfl ?_
        refine lv_isub E.hx E.hb dX9_goesOn_45 ?_
        exact hret _ th_j10 _ _ _ _ _ _ hW (Option.some.inj hf).symm rfl (by decide) (by decide) dX9_goesOn_46
      · have hf := oF hc hf
        refine k_aload_n E hl 0 dX9_goesOn_15 rfl ?_
        refine gf_X9_13 E hW 0 rfl rfl dX9_goesOn_16 ?_
        refine lv_iconst (v := (0 : Int32)) E.hx E.hb dX9_goesOn_19 ic_0 ?_
        obtain ⟨hin, hf⟩ := oI hf
        obtain ⟨x_3, ex_3, hf⟩ := oL hf
        refine k_iald E hW 2 rfl hin dX9_goesOn_20 ?_
        refine k_topi ex_3 ?_
        refine lv_sipush (v := (2000 : Int32)) E.hx E.hb dX9_goesOn_21 sp_2000 ?_
        refine lv_icmp_ge (tgt := 37) E.hx E.hb dX9_goesOn_24 (by decide) (fun hc => ?_) (fun hc => ?_)
        · have hf := oT hc hf
          refine k_aload_n E hl 0 dX9_goesOn_37 rfl ?_
          refine gf_X9_13 E hW 0 rfl rfl dX9_goesOn_38 ?_
          refine lv_bipush (v := (8 : Int32)) E.hx E.hb dX9_goesOn_41 bp_8 ?_
          obtain ⟨hin, hf⟩ := oI hf
          obtain ⟨x_4, ex_4, hf⟩ := oL hf
          refine k_iald E hW 2 rfl hin dX9_goesOn_43 ?_
          refine k_topi ex_4 ?_
          refine k_iload_n E hl 2 dX9_goesOn_44 rfl ?_
          refine lv_isub E.hx E.hb dX9_goesOn_45 ?_
          exact hret _ th_j10 _ _ _ _ _ _ hW (Option.some.inj hf).symm rfl (by decide) (by decide) dX9_goesOn_46
        · have hf := oF hc hf
          refine k_aload_n E hl 0 dX9_goesOn_27 rfl ?_
          obtain ⟨th_5, hg, hf⟩ := ob hf
          refine k_callVv (As := []) (rest := []) (ws2 := fun u => wModel k a_th (u)) (c_X9_ticks n l k a_th th_j10 th_5 hg) E vl_X9_202 dX9_goesOn_28 rfl [0, 1, 2, 3, 4, 5, 6, 7, 8, 9, 10, 11, 12] 7 0 hW hA hl rfl rfl rfl rfl ⟨by decide, by decide⟩ ⟨by decide, by decide⟩ (Nat.le_of_ble_eq_true rfl) rfl (fun _ => rfl) (fun _ => rfl) (fun u H locs hp hW => ?_)
          cases hp
          have hW : WD k A s.heap (wModel k a_th th_5) H locs := hW
          obtain ⟨v3_6, ev3_6, hf⟩ := oL hf
          refine k_iinc (lv' := [(3, .int v3_6), (0, .ref (a_th 0)), (1, .int v1_0), (2, .int x_1)]) E hl 3 dX9_goesOn_31 rfl (ev3_6.trans (congrArg (fun z => w3_j10 + z) ic_1.symm)) (by decide) rfl (fun ls hl => ?_)
          refine lv_goto (tgt := 10) E.hx E.hb dX9_goesOn_34 (by decide) ?_
          exact ih_10 th_5 v3_6 _ _ _ hW (lv_sub hl [1, 2, 3, 0] rfl) hf
  exact L_10 n th_0 (0 : Int32) _ _ _ hW (lv_sub hl [2, 3, 1, 0] rfl) hf
def f_X9_timeOfHearing (n : Nat) (th_0 : OS) : Option (Int32) :=
  gI 1846 (0 : Int32) (Let ((th_0.2.1 9) (0 : Int32).toNatClampNeg) (fun x_1 : Int32 =>
  oN ((th_0.1 3) = 0) (
  Let (((x_1 / (th_0.1 3)) + (1 : Int32)) * (th_0.1 3)) (fun v1_2 : Int32 =>
  if v1_2 ≤ (2000 : Int32) then (
  some v1_2) else (
  some (-1 : Int32))))))
set_option maxHeartbeats 4000000 in
set_option maxRecDepth 100000 in
theorem c_X9_timeOfHearing (n : Nat) (l : Launch) (k : KT) (a_th : Nat → Nat) (th_0 : OS) (res : (Int32)) (hf : f_X9_timeOfHearing n th_0 = some res) : CG l k yX9_timeOfHearing cX9_timeOfHearing 2 (some .int) 0 0 0 0 [.ref (a_th 0)] (wModel k a_th th_0) (Qi k (fun u : Unit => wModel k a_th th_0) (fun (r : Int32) (u : Unit) => res = r)) := by
  refine CG.ofI (by decide) (Nat.le_of_ble_eq_true rfl) (fun p e s m args below meth c A Q E hnm hW hA hret ls hl => ?_)
  have hl : lv_has ls 2 [(0, .ref (a_th 0))] := hl
  unfold f_X9_timeOfHearing at hf
  refine k_aload_n E hl 0 dX9_timeOfHearing_0 rfl ?_
  refine gf_X9_13 E hW 0 rfl rfl dX9_timeOfHearing_1 ?_
  refine lv_iconst (v := (0 : Int32)) E.hx E.hb dX9_timeOfHearing_4 ic_0 ?_
  obtain ⟨hin, hf⟩ := oI hf
  obtain ⟨x_1, ex_1, hf⟩ := oL hf
  refine k_iald E hW 2 rfl hin dX9_timeOfHearing_5 ?_
  refine k_topi ex_1 ?_
  refine k_aload_n E hl 0 dX9_timeOfHearing_6 rfl ?_
  refine gf_X9_193 E hW 0 rfl rfl dX9_timeOfHearing_7 ?_
  obtain ⟨hz, hf⟩ := oG hf
  refine lv_idiv E.hx E.hb dX9_timeOfHearing_10 hz ?_
  refine lv_iconst (v := (1 : Int32)) E.hx E.hb dX9_timeOfHearing_11 ic_1 ?_
  refine lv_iadd E.hx E.hb dX9_timeOfHearing_12 ?_
  refine k_aload_n E hl 0 dX9_timeOfHearing_13 rfl ?_
  refine gf_X9_193 E hW 0 rfl rfl dX9_timeOfHearing_14 ?_
  refine lv_imul E.hx E.hb dX9_timeOfHearing_17 ?_
  obtain ⟨v1_2, ev1_2, hf⟩ := oL hf
  refine k_istore_n (lv' := [(1, .int v1_2), (0, .ref (a_th 0))]) E ev1_2 hl dX9_timeOfHearing_18 rfl (by decide) rfl (fun ls hl => ?_)
  refine k_iload_n E hl 0 dX9_timeOfHearing_19 rfl ?_
  refine lv_sipush (v := (2000 : Int32)) E.hx E.hb dX9_timeOfHearing_20 sp_2000 ?_
  refine lv_icmp_le (tgt := 30) E.hx E.hb dX9_timeOfHearing_23 (by decide) (fun hc => ?_) (fun hc => ?_)
  · have hf := oT hc hf
    refine k_iload_n E hl 0 dX9_timeOfHearing_30 rfl ?_
    exact hret _ () _ _ _ _ _ _ hW (Option.some.inj hf).symm rfl (by decide) (by decide) dX9_timeOfHearing_31
  · have hf := oF hc hf
    refine lv_iconst (v := (-1 : Int32)) E.hx E.hb dX9_timeOfHearing_26 ic_m1 ?_
    refine lv_goto (tgt := 31) E.hx E.hb dX9_timeOfHearing_27 (by decide) ?_
    exact hret _ () _ _ _ _ _ _ hW (Option.some.inj hf).symm rfl (by decide) (by decide) dX9_timeOfHearing_31
def f_X9_areTicks (n : Nat) (v0_0 : Int32) : Option (Int32) :=
  bnd (f_X9_isIn n ((v0_0).toInt64) (1 : Int64) (500 : Int64)) (fun (r_1 : Int32) =>
  gZ r_1 (some r_1))
set_option maxHeartbeats 4000000 in
set_option maxRecDepth 100000 in
theorem c_X9_areTicks (n : Nat) (l : Launch) (k : KT)  (v0_0 : Int32) (res : (Int32)) (hf : f_X9_areTicks n v0_0 = some res) : CG l k yX9_areTicks cX9_areTicks 1 (some .boolean) 1 0 0 25 [.int v0_0] ([]) (Qi k (fun u : Unit => []) (fun (r : Int32) (u : Unit) => res = r)) := by
  refine CG.ofI (by decide) (Nat.le_of_ble_eq_true rfl) (fun p e s m args below meth c A Q E hnm hW hA hret ls hl => ?_)
  have hl : lv_has ls 1 [(0, .int v0_0)] := hl
  unfold f_X9_areTicks at hf
  refine k_iload_n E hl 0 dX9_areTicks_0 rfl ?_
  refine lv_i2l (v := (v0_0).toInt64) E.hx E.hb dX9_areTicks_1 rfl ?_
  refine lv_lconst (v := (1 : Int64)) E.hx E.hb dX9_areTicks_2 (by decide) ?_
  refine lv_ldc2 E.hx E.hb E.ho (E.w tm_1469 rfl) dX9_areTicks_3 ?_
  obtain ⟨r_1, hg, hf⟩ := ob hf
  refine k_callSi (As := [.long ((v0_0).toInt64), .long (1 : Int64), .long (500 : Int64)]) (rest := []) (ws2 := fun u => []) (c_X9_isIn n l k ((v0_0).toInt64) (1 : Int64) (500 : Int64) r_1 hg) E sl_X9_92 dX9_areTicks_6 rfl [] hW hA hl rfl rfl ⟨by decide, by decide⟩ ⟨by decide, by decide⟩ (Nat.le_of_ble_eq_true rfl) rfl (fun _ => rfl) (fun _ => rfl) (fun r u H locs hp hW => ?_)
  cases hp
  have hW : WD k A s.heap ([]) H locs := hW
  obtain ⟨hz, hf⟩ := oZ hf
  exact hret _ () _ _ _ _ _ _ hW (Option.some.inj hf).symm hz (by decide) (by decide) dX9_areTicks_9
