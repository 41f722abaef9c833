theorem tm_520 : (Jvm.Cond.methodLink "MemoryCourt" (283 : Nat) ({ cls := "MemoryCourt$Past", name := "keep", desc := "(LMemoryCourt$Court;)V" } : Jvm.MethodName)) ∈ lw_tbl := List.mem_of_getElem? (i := 520) (by decide +kernel)
theorem tm_521 : (Jvm.Cond.instanceMethod ({ cls := "MemoryCourt$Past", name := "keep", desc := "(LMemoryCourt$Court;)V" } : Jvm.MethodName)) ∈ lw_tbl := List.mem_of_getElem? (i := 521) (by decide +kernel)
theorem tm_522 : (Jvm.Cond.selects "MemoryCourt$Past" ({ cls := "MemoryCourt$Past", name := "keep", desc := "(LMemoryCourt$Court;)V" } : Jvm.MethodName) ({ cls := "MemoryCourt$Past", name := "keep", desc := "(LMemoryCourt$Court;)V" } : Jvm.MethodName)) ∈ lw_tbl := List.mem_of_getElem? (i := 522) (by decide +kernel)
theorem tm_523 : (Jvm.Cond.code ({ cls := "MemoryCourt$Past", name := "keep", desc := "(LMemoryCourt$Court;)V" } : Jvm.MethodName) prog_5_method_2_code (3 : Nat) (Option.none : Option Jvm.ClassFile.FieldType)) ∈ lw_tbl := List.mem_of_getElem? (i := 523) (by decide +kernel)
theorem tm_1130 : (Jvm.Cond.methodLink "MemoryCourt" (294 : Nat) ({ cls := "MemoryCourt$Court", name := "addClaim", desc := "(III)I" } : Jvm.MethodName)) ∈ lw_tbl := List.mem_of_getElem? (i := 1130) (by decide +kernel)
theorem tm_1141 : (Jvm.Cond.methodLink "MemoryCourt" (309 : Nat) ({ cls := "MemoryCourt$Court", name := "release", desc := "(II)V" } : Jvm.MethodName)) ∈ lw_tbl := List.mem_of_getElem? (i := 1141) (by decide +kernel)
theorem tm_1135 : (Jvm.Cond.methodLink "MemoryCourt" (303 : Nat) ({ cls := "MemoryCourt$Table", name := "set", desc := "(III)V" } : Jvm.MethodName)) ∈ lw_tbl := List.mem_of_getElem? (i := 1135) (by decide +kernel)
theorem tm_639 : (Jvm.Cond.methodLink "MemoryCourt" (335 : Nat) ({ cls := "MemoryCourt$Past", name := "bringBack", desc := "(LMemoryCourt$Court;)V" } : Jvm.MethodName)) ∈ lw_tbl := List.mem_of_getElem? (i := 639) (by decide +kernel)
theorem tm_640 : (Jvm.Cond.instanceMethod ({ cls := "MemoryCourt$Past", name := "bringBack", desc := "(LMemoryCourt$Court;)V" } : Jvm.MethodName)) ∈ lw_tbl := List.mem_of_getElem? (i := 640) (by decide +kernel)
theorem tm_641 : (Jvm.Cond.selects "MemoryCourt$Past" ({ cls := "MemoryCourt$Past", name := "bringBack", desc := "(LMemoryCourt$Court;)V" } : Jvm.MethodName) ({ cls := "MemoryCourt$Past", name := "bringBack", desc := "(LMemoryCourt$Court;)V" } : Jvm.MethodName)) ∈ lw_tbl := List.mem_of_getElem? (i := 641) (by decide +kernel)
theorem tm_642 : (Jvm.Cond.code ({ cls := "MemoryCourt$Past", name := "bringBack", desc := "(LMemoryCourt$Court;)V" } : Jvm.MethodName) prog_5_method_3_code (3 : Nat) (Option.none : Option Jvm.ClassFile.FieldType)) ∈ lw_tbl := List.mem_of_getElem? (i := 642) (by decide +kernel)
theorem vl_X8_283 : VL RX8 283 RX3 yX3_keep cX3_keep 3 none 1 := ⟨⟨tm_520, tm_521, tm_522, tm_42, tm_523⟩, by decide +kernel⟩
theorem vl_X8_294 : VL RX8 294 RX2 yX2_addClaim cX2_addClaim 5 (some .int) 3 := ⟨⟨tm_1130, tm_855, tm_856, tm_38, tm_857⟩, by decide +kernel⟩
theorem vl_X8_309 : VL RX8 309 RX2 yX2_release cX2_release 5 none 2 := ⟨⟨tm_1141, tm_618, tm_619, tm_38, tm_620⟩, by decide +kernel⟩
theorem vl_X8_303 : VL RX8 303 RX6 yX6_set cX6_set 5 none 3 := ⟨⟨tm_1135, tm_561, tm_562, tm_37, tm_563⟩, by decide +kernel⟩
theorem vl_X8_335 : VL RX8 335 RX3 yX3_bringBack cX3_bringBack 3 none 1 := ⟨⟨tm_639, tm_640, tm_641, tm_42, tm_642⟩, by decide +kernel⟩
theorem dX8_run_0 : decode cX8_run 0 = .ok (.aload_n 0, 1) := by decide +kernel
theorem dX8_run_1 : decode cX8_run 1 = .ok (.iload_n 1, 1) := by decide +kernel
theorem dX8_run_2 : decode cX8_run 2 = .ok (.invokevirtual 275, 3) := by decide +kernel
theorem dX8_run_5 : decode cX8_run 5 = .ok (.aload_n 0, 1) := by decide +kernel
theorem dX8_run_6 : decode cX8_run 6 = .ok (.getfield 31, 3) := by decide +kernel
theorem dX8_run_9 : decode cX8_run 9 = .ok (.getfield 108, 3) := by decide +kernel
theorem dX8_run_12 : decode cX8_run 12 = .ok (.iload_n 1, 1) := by decide +kernel
theorem dX8_run_13 : decode cX8_run 13 = .ok (.iadd, 1) := by decide +kernel
theorem dX8_run_14 : decode cX8_run 14 = .ok (.sipush 2000, 3) := by decide +kernel
theorem dX8_run_17 : decode cX8_run 17 = .ok (.if_icmp .le 14, 3) := by decide +kernel
theorem dX8_run_20 : decode cX8_run 20 = .ok (.new 278, 3) := by decide +kernel
theorem dX8_run_31 : decode cX8_run 31 = .ok (.aload_n 0, 1) := by decide +kernel
theorem dX8_run_32 : decode cX8_run 32 = .ok (.getfield 50, 3) := by decide +kernel
theorem dX8_run_35 : decode cX8_run 35 = .ok (.aload_n 0, 1) := by decide +kernel
theorem dX8_run_36 : decode cX8_run 36 = .ok (.getfield 31, 3) := by decide +kernel
theorem dX8_run_39 : decode cX8_run 39 = .ok (.invokevirtual 283, 3) := by decide +kernel
theorem dX8_run_42 : decode cX8_run 42 = .ok (.iconst 0, 1) := by decide +kernel
theorem dX8_run_43 : decode cX8_run 43 = .ok (.istore_n 2, 1) := by decide +kernel
theorem dX8_run_44 : decode cX8_run 44 = .ok (.iconst 0, 1) := by decide +kernel
theorem dX8_run_45 : decode cX8_run 45 = .ok (.istore_n 3, 1) := by decide +kernel
theorem dX8_run_46 : decode cX8_run 46 = .ok (.iload_n 3, 1) := by decide +kernel
theorem dX8_run_47 : decode cX8_run 47 = .ok (.iload_n 1, 1) := by decide +kernel
theorem dX8_run_48 : decode cX8_run 48 = .ok (.if_icmp .ge 23, 3) := by decide +kernel
theorem dX8_run_51 : decode cX8_run 51 = .ok (.iload_n 2, 1) := by decide +kernel
theorem dX8_run_52 : decode cX8_run 52 = .ok (.aload_n 0, 1) := by decide +kernel
theorem dX8_run_53 : decode cX8_run 53 = .ok (.getfield 31, 3) := by decide +kernel
theorem dX8_run_56 : decode cX8_run 56 = .ok (.aload_n 0, 1) := by decide +kernel
theorem dX8_run_57 : decode cX8_run 57 = .ok (.getfield 24, 3) := by decide +kernel
theorem dX8_run_60 : decode cX8_run 60 = .ok (.invokevirtual 286, 3) := by decide +kernel
theorem dX8_run_63 : decode cX8_run 63 = .ok (.iadd, 1) := by decide +kernel
theorem dX8_run_64 : decode cX8_run 64 = .ok (.istore_n 2, 1) := by decide +kernel
theorem dX8_run_65 : decode cX8_run 65 = .ok (.iinc 3 1, 3) := by decide +kernel
theorem dX8_run_68 : decode cX8_run 68 = .ok (.goto (-22), 3) := by decide +kernel
theorem dX8_run_71 : decode cX8_run 71 = .ok (.iload_n 2, 1) := by decide +kernel
theorem dX8_run_72 : decode cX8_run 72 = .ok (.ireturn, 1) := by decide +kernel
theorem dX8_ask_0 : decode cX8_ask 0 = .ok (.aload_n 0, 1) := by decide +kernel
theorem dX8_ask_1 : decode cX8_ask 1 = .ok (.iload_n 1, 1) := by decide +kernel
theorem dX8_ask_2 : decode cX8_ask 2 = .ok (.invokevirtual 165, 3) := by decide +kernel
theorem dX8_ask_5 : decode cX8_ask 5 = .ok (.iload_n 2, 1) := by decide +kernel
theorem dX8_ask_6 : decode cX8_ask 6 = .ok (.iconst 1, 1) := by decide +kernel
theorem dX8_ask_7 : decode cX8_ask 7 = .ok (.if_icmp .lt 25, 3) := by decide +kernel
theorem dX8_ask_10 : decode cX8_ask 10 = .ok (.iload_n 2, 1) := by decide +kernel
theorem dX8_ask_11 : decode cX8_ask 11 = .ok (.aload_n 0, 1) := by decide +kernel
theorem dX8_ask_12 : decode cX8_ask 12 = .ok (.getfield 24, 3) := by decide +kernel
theorem dX8_ask_15 : decode cX8_ask 15 = .ok (.getfield 105, 3) := by decide +kernel
theorem dX8_ask_18 : decode cX8_ask 18 = .ok (.if_icmp .gt 14, 3) := by decide +kernel
theorem dX8_ask_21 : decode cX8_ask 21 = .ok (.iload_n 3, 1) := by decide +kernel
theorem dX8_ask_22 : decode cX8_ask 22 = .ok (.iconst 1, 1) := by decide +kernel
theorem dX8_ask_23 : decode cX8_ask 23 = .ok (.if_icmp .lt 9, 3) := by decide +kernel
theorem dX8_ask_26 : decode cX8_ask 26 = .ok (.iload_n 3, 1) := by decide +kernel
theorem dX8_ask_27 : decode cX8_ask 27 = .ok (.bipush 99, 2) := by decide +kernel
theorem dX8_ask_29 : decode cX8_ask 29 = .ok (.if_icmp .le 14, 3) := by decide +kernel
theorem dX8_ask_32 : decode cX8_ask 32 = .ok (.new 234, 3) := by decide +kernel
theorem dX8_ask_43 : decode cX8_ask 43 = .ok (.aload_n 0, 1) := by decide +kernel
theorem dX8_ask_44 : decode cX8_ask 44 = .ok (.getfield 31, 3) := by decide +kernel
theorem dX8_ask_47 : decode cX8_ask 47 = .ok (.getfield 142, 3) := by decide +kernel
theorem dX8_ask_50 : decode cX8_ask 50 = .ok (.bipush 60, 2) := by decide +kernel
theorem dX8_ask_52 : decode cX8_ask 52 = .ok (.if_icmp .lt 14, 3) := by decide +kernel
theorem dX8_ask_55 : decode cX8_ask 55 = .ok (.new 278, 3) := by decide +kernel
theorem dX8_ask_66 : decode cX8_ask 66 = .ok (.aload_n 0, 1) := by decide +kernel
theorem dX8_ask_67 : decode cX8_ask 67 = .ok (.getfield 50, 3) := by decide +kernel
theorem dX8_ask_70 : decode cX8_ask 70 = .ok (.aload_n 0, 1) := by decide +kernel
theorem dX8_ask_71 : decode cX8_ask 71 = .ok (.getfield 31, 3) := by decide +kernel
theorem dX8_ask_74 : decode cX8_ask 74 = .ok (.invokevirtual 283, 3) := by decide +kernel
theorem dX8_ask_77 : decode cX8_ask 77 = .ok (.aload_n 0, 1) := by decide +kernel
theorem dX8_ask_78 : decode cX8_ask 78 = .ok (.getfield 31, 3) := by decide +kernel
theorem dX8_ask_81 : decode cX8_ask 81 = .ok (.iload_n 1, 1) := by decide +kernel
theorem dX8_ask_82 : decode cX8_ask 82 = .ok (.iload_n 2, 1) := by decide +kernel
theorem dX8_ask_83 : decode cX8_ask 83 = .ok (.iload_n 3, 1) := by decide +kernel
theorem dX8_ask_84 : decode cX8_ask 84 = .ok (.invokevirtual 294, 3) := by decide +kernel
theorem dX8_ask_87 : decode cX8_ask 87 = .ok (.ireturn, 1) := by decide +kernel
theorem dX8_giveBack_0 : decode cX8_giveBack 0 = .ok (.aload_n 0, 1) := by decide +kernel
theorem dX8_giveBack_1 : decode cX8_giveBack 1 = .ok (.iload_n 1, 1) := by decide +kernel
theorem dX8_giveBack_2 : decode cX8_giveBack 2 = .ok (.invokevirtual 186, 3) := by decide +kernel
theorem dX8_giveBack_5 : decode cX8_giveBack 5 = .ok (.iload_n 2, 1) := by decide +kernel
theorem dX8_giveBack_6 : decode cX8_giveBack 6 = .ok (.iconst 1, 1) := by decide +kernel
theorem dX8_giveBack_7 : decode cX8_giveBack 7 = .ok (.if_icmp .lt 19, 3) := by decide +kernel
theorem dX8_giveBack_10 : decode cX8_giveBack 10 = .ok (.iload_n 2, 1) := by decide +kernel
theorem dX8_giveBack_11 : decode cX8_giveBack 11 = .ok (.aload_n 0, 1) := by decide +kernel
theorem dX8_giveBack_12 : decode cX8_giveBack 12 = .ok (.getfield 31, 3) := by decide +kernel
theorem dX8_giveBack_15 : decode cX8_giveBack 15 = .ok (.getfield 195, 3) := by decide +kernel
theorem dX8_giveBack_18 : decode cX8_giveBack 18 = .ok (.iload_n 1, 1) := by decide +kernel
theorem dX8_giveBack_19 : decode cX8_giveBack 19 = .ok (.iconst 1, 1) := by decide +kernel
theorem dX8_giveBack_20 : decode cX8_giveBack 20 = .ok (.invokevirtual 171, 3) := by decide +kernel
theorem dX8_giveBack_23 : decode cX8_giveBack 23 = .ok (.if_icmp .le 14, 3) := by decide +kernel
theorem dX8_giveBack_26 : decode cX8_giveBack 26 = .ok (.new 234, 3) := by decide +kernel
theorem dX8_giveBack_37 : decode cX8_giveBack 37 = .ok (.aload_n 0, 1) := by decide +kernel
theorem dX8_giveBack_38 : decode cX8_giveBack 38 = .ok (.getfield 50, 3) := by decide +kernel
theorem dX8_giveBack_41 : decode cX8_giveBack 41 = .ok (.aload_n 0, 1) := by decide +kernel
theorem dX8_giveBack_42 : decode cX8_giveBack 42 = .ok (.getfield 31, 3) := by decide +kernel
theorem dX8_giveBack_45 : decode cX8_giveBack 45 = .ok (.invokevirtual 283, 3) := by decide +kernel
theorem dX8_giveBack_48 : decode cX8_giveBack 48 = .ok (.aload_n 0, 1) := by decide +kernel
theorem dX8_giveBack_49 : decode cX8_giveBack 49 = .ok (.getfield 31, 3) := by decide +kernel
theorem dX8_giveBack_52 : decode cX8_giveBack 52 = .ok (.iload_n 1, 1) := by decide +kernel
theorem dX8_giveBack_53 : decode cX8_giveBack 53 = .ok (.iload_n 2, 1) := by decide +kernel
theorem dX8_giveBack_54 : decode cX8_giveBack 54 = .ok (.invokevirtual 309, 3) := by decide +kernel
theorem dX8_giveBack_57 : decode cX8_giveBack 57 = .ok (.aload_n 0, 1) := by decide +kernel
theorem dX8_giveBack_58 : decode cX8_giveBack 58 = .ok (.getfield 31, 3) := by decide +kernel
theorem dX8_giveBack_61 : decode cX8_giveBack 61 = .ok (.getfield 195, 3) := by decide +kernel
theorem dX8_giveBack_64 : decode cX8_giveBack 64 = .ok (.iload_n 1, 1) := by decide +kernel
theorem dX8_giveBack_65 : decode cX8_giveBack 65 = .ok (.iconst 1, 1) := by decide +kernel
theorem dX8_giveBack_66 : decode cX8_giveBack 66 = .ok (.invokevirtual 171, 3) := by decide +kernel
theorem dX8_giveBack_69 : decode cX8_giveBack 69 = .ok (.ireturn, 1) := by decide +kernel
theorem dX8_stall_0 : decode cX8_stall 0 = .ok (.aload_n 0, 1) := by decide +kernel
theorem dX8_stall_1 : decode cX8_stall 1 = .ok (.iload_n 1, 1) := by decide +kernel
theorem dX8_stall_2 : decode cX8_stall 2 = .ok (.invokevirtual 165, 3) := by decide +kernel
theorem dX8_stall_5 : decode cX8_stall 5 = .ok (.iload_n 2, 1) := by decide +kernel
theorem dX8_stall_6 : decode cX8_stall 6 = .ok (.ifCond .lt 9, 3) := by decide +kernel
theorem dX8_stall_9 : decode cX8_stall 9 = .ok (.iload_n 2, 1) := by decide +kernel
theorem dX8_stall_10 : decode cX8_stall 10 = .ok (.bipush 99, 2) := by decide +kernel
theorem dX8_stall_12 : decode cX8_stall 12 = .ok (.if_icmp .le 14, 3) := by decide +kernel
theorem dX8_stall_15 : decode cX8_stall 15 = .ok (.new 234, 3) := by decide +kernel
theorem dX8_stall_26 : decode cX8_stall 26 = .ok (.aload_n 0, 1) := by decide +kernel
theorem dX8_stall_27 : decode cX8_stall 27 = .ok (.getfield 50, 3) := by decide +kernel
theorem dX8_stall_30 : decode cX8_stall 30 = .ok (.aload_n 0, 1) := by decide +kernel
theorem dX8_stall_31 : decode cX8_stall 31 = .ok (.getfield 31, 3) := by decide +kernel
theorem dX8_stall_34 : decode cX8_stall 34 = .ok (.invokevirtual 283, 3) := by decide +kernel
theorem dX8_stall_37 : decode cX8_stall 37 = .ok (.aload_n 0, 1) := by decide +kernel
theorem dX8_stall_38 : decode cX8_stall 38 = .ok (.getfield 31, 3) := by decide +kernel
theorem dX8_stall_41 : decode cX8_stall 41 = .ok (.getfield 168, 3) := by decide +kernel
theorem dX8_stall_44 : decode cX8_stall 44 = .ok (.iload_n 1, 1) := by decide +kernel
theorem dX8_stall_45 : decode cX8_stall 45 = .ok (.iconst 2, 1) := by decide +kernel
theorem dX8_stall_46 : decode cX8_stall 46 = .ok (.invokevirtual 171, 3) := by decide +kernel
theorem dX8_stall_49 : decode cX8_stall 49 = .ok (.istore_n 3, 1) := by decide +kernel
theorem dX8_stall_50 : decode cX8_stall 50 = .ok (.aload_n 0, 1) := by decide +kernel
theorem dX8_stall_51 : decode cX8_stall 51 = .ok (.getfield 31, 3) := by decide +kernel
theorem dX8_stall_54 : decode cX8_stall 54 = .ok (.getfield 168, 3) := by decide +kernel
theorem dX8_stall_57 : decode cX8_stall 57 = .ok (.iload_n 1, 1) := by decide +kernel
theorem dX8_stall_58 : decode cX8_stall 58 = .ok (.iconst 2, 1) := by decide +kernel
theorem dX8_stall_59 : decode cX8_stall 59 = .ok (.iload_n 2, 1) := by decide +kernel
theorem dX8_stall_60 : decode cX8_stall 60 = .ok (.invokevirtual 303, 3) := by decide +kernel
theorem dX8_stall_63 : decode cX8_stall 63 = .ok (.iload_n 3, 1) := by decide +kernel
theorem dX8_stall_64 : decode cX8_stall 64 = .ok (.ireturn, 1) := by decide +kernel
theorem dX8_setOrder_0 : decode cX8_setOrder 0 = .ok (.iload_n 1, 1) := by decide +kernel
theorem dX8_setOrder_1 : decode cX8_setOrder 1 = .ok (.ifCond .lt 8, 3) := by decide +kernel
theorem dX8_setOrder_4 : decode cX8_setOrder 4 = .ok (.iload_n 1, 1) := by decide +kernel
theorem dX8_setOrder_5 : decode cX8_setOrder 5 = .ok (.iconst 2, 1) := by decide +kernel
theorem dX8_setOrder_6 : decode cX8_setOrder 6 = .ok (.if_icmp .le 14, 3) := by decide +kernel
theorem dX8_setOrder_9 : decode cX8_setOrder 9 = .ok (.new 234, 3) := by decide +kernel
theorem dX8_setOrder_20 : decode cX8_setOrder 20 = .ok (.aload_n 0, 1) := by decide +kernel
theorem dX8_setOrder_21 : decode cX8_setOrder 21 = .ok (.getfield 50, 3) := by decide +kernel
theorem dX8_setOrder_24 : decode cX8_setOrder 24 = .ok (.aload_n 0, 1) := by decide +kernel
theorem dX8_setOrder_25 : decode cX8_setOrder 25 = .ok (.getfield 31, 3) := by decide +kernel
theorem dX8_setOrder_28 : decode cX8_setOrder 28 = .ok (.invokevirtual 283, 3) := by decide +kernel
theorem dX8_setOrder_31 : decode cX8_setOrder 31 = .ok (.aload_n 0, 1) := by decide +kernel
theorem dX8_setOrder_32 : decode cX8_setOrder 32 = .ok (.getfield 31, 3) := by decide +kernel
theorem dX8_setOrder_35 : decode cX8_setOrder 35 = .ok (.getfield 111, 3) := by decide +kernel
theorem dX8_setOrder_38 : decode cX8_setOrder 38 = .ok (.istore_n 2, 1) := by decide +kernel
theorem dX8_setOrder_39 : decode cX8_setOrder 39 = .ok (.aload_n 0, 1) := by decide +kernel
theorem dX8_setOrder_40 : decode cX8_setOrder 40 = .ok (.getfield 31, 3) := by decide +kernel
theorem dX8_setOrder_43 : decode cX8_setOrder 43 = .ok (.iload_n 1, 1) := by decide +kernel
theorem dX8_setOrder_44 : decode cX8_setOrder 44 = .ok (.putfield 111, 3) := by decide +kernel
theorem dX8_setOrder_47 : decode cX8_setOrder 47 = .ok (.iload_n 2, 1) := by decide +kernel
theorem dX8_setOrder_48 : decode cX8_setOrder 48 = .ok (.ireturn, 1) := by decide +kernel
theorem dX8_undo_0 : decode cX8_undo 0 = .ok (.aload_n 0, 1) := by decide +kernel
theorem dX8_undo_1 : decode cX8_undo 1 = .ok (.getfield 50, 3) := by decide +kernel
theorem dX8_undo_4 : decode cX8_undo 4 = .ok (.getfield 158, 3) := by decide +kernel
theorem dX8_undo_7 : decode cX8_undo 7 = .ok (.ifCond .ne 14, 3) := by decide +kernel
theorem dX8_undo_10 : decode cX8_undo 10 = .ok (.new 278, 3) := by decide +kernel
theorem dX8_undo_21 : decode cX8_undo 21 = .ok (.aload_n 0, 1) := by decide +kernel
theorem dX8_undo_22 : decode cX8_undo 22 = .ok (.getfield 50, 3) := by decide +kernel
theorem dX8_undo_25 : decode cX8_undo 25 = .ok (.aload_n 0, 1) := by decide +kernel
theorem dX8_undo_26 : decode cX8_undo 26 = .ok (.getfield 31, 3) := by decide +kernel
theorem dX8_undo_29 : decode cX8_undo 29 = .ok (.invokevirtual 335, 3) := by decide +kernel
theorem dX8_undo_32 : decode cX8_undo 32 = .ok (.aload_n 0, 1) := by decide +kernel
theorem dX8_undo_33 : decode cX8_undo 33 = .ok (.getfield 50, 3) := by decide +kernel
theorem dX8_undo_36 : decode cX8_undo 36 = .ok (.getfield 158, 3) := by decide +kernel
theorem dX8_undo_39 : decode cX8_undo 39 = .ok (.ireturn, 1) := by decide +kernel
def s_X8_run_46 (n : Nat) (sv_th : Value) (th_0 : OS) (ru_0 : OS) (w1_j46 : Int32) (rc_46 : (OS) → (PS) → (Int32) → (Int32) → Option (OS × PS × Int32 × Nat)) (no_j46 : OS) (pa_j46 : PS) (w2_j46 : Int32) (w3_j46 : Int32) : Option (OS × PS × Int32 × Nat) :=
  if w1_j46 ≤ w3_j46 then (
  some (no_j46, pa_j46, w2_j46, 0)) else (
  bnd2 (f_X2_tick n no_j46 ru_0) (fun (no_4 : OS) (r_5 : Int32) =>
  Let (w2_j46 + r_5) (fun v2_6 : Int32 =>
  Let (w3_j46 + (1 : Int32)) (fun v3_7 : Int32 =>
  rc_46 no_4 pa_j46 v2_6 v3_7))))
def l_X8_run_46 (n : Nat) (sv_th : Value) (th_0 : OS) (ru_0 : OS) (w1_j46 : Int32) : Nat → (OS) → (PS) → (Int32) → (Int32) → Option (OS × PS × Int32 × Nat)
  | 0 => fun _ _ _ _ => none
  | N + 1 => s_X8_run_46 n sv_th th_0 ru_0 w1_j46 (l_X8_run_46 n sv_th th_0 ru_0 w1_j46 N)
def f_X8_run (n : Nat) (sv_th : Value) (th_0 : OS) (ru_0 : OS) (no_0 : OS) (pa_0 : PS) (v1_0 : Int32) : Option (OS × PS × Int32 × Nat) :=
  bnd (f_X8_needTicks n sv_th th_0 v1_0) (fun (cd_1 : Nat) =>
  if cd_1 = 0 then (
  if ((no_0.1 0) + v1_0) ≤ (2000 : Int32) then (
  bnd (f_X3_keep n pa_0 no_0) (fun (pa_2 : PS) =>
  l_X8_run_46 n sv_th th_0 ru_0 v1_0 n no_0 pa_2 (0 : Int32) (0 : Int32))) else (
  some (no_0, pa_0, (0 : Int32), 3))) else (
  some (no_0, pa_0, (0 : Int32), cd_1)))
set_option maxHeartbeats 4000000 in
set_option maxRecDepth 100000 in
theorem c_X8_run (n : Nat) (l : Launch) (k : KT) (a_th : Nat → Nat) (a_in : Nat → Nat) (a_ou : Nat → Nat) (a_ru : Nat → Nat) (a_no : Nat → Nat) (a_fo : Nat → Nat) (a_rd : Nat → Nat) (a_pa : Nat → Nat) (pp_0 : Nat → Nat → Nat) (sv_th : Value) (th_0 : OS) (ru_0 : OS) (no_0 : OS) (pa_0 : PS) (v1_0 : Int32) (res : (OS × PS × Int32 × Nat)) (hf : f_X8_run n sv_th th_0 ru_0 no_0 pa_0 v1_0 = some res) (h0 : res.2.2.2 = 0) : CG l k yX8_run cX8_run 4 (some .int) 6 13 2000 222 [.ref (a_th 0), .int v1_0] ((wMCo k a_th (a_in 0) (a_ou 0) (a_ru 0) (a_no 0) (a_fo 0) (a_rd 0) (a_pa 0) sv_th th_0 ++ wRules k a_ru ru_0 ++ wCourt k a_no no_0 ++ wPast k a_pa pp_0 pa_0) ++ poolW k pp_0 pa_0.2) (Qi k (fun u : (OS) × (PS) × (Nat → Nat → Nat) => (wMCo k a_th (a_in 0) (a_ou 0) (a_ru 0) (a_no 0) (a_fo 0) (a_rd 0) (a_pa 0) sv_th th_0 ++ wRules k a_ru ru_0 ++ wCourt k a_no (u.1) ++ wPast k a_pa (u.2.2) (u.2.1)) ++ poolW k (u.2.2) (u.2.1).2) (fun (r : Int32) (u : (OS) × (PS) × (Nat → Nat → Nat)) => res = (u.1, u.2.1, r, 0))) := by
  refine CG.ofI (by decide) (Nat.le_of_ble_eq_true rfl) (fun p e s m args below meth c A Q E hnm hW hA hret ls hl => ?_)
  have hl : lv_has ls 4 [(0, .ref (a_th 0)), (1, .int v1_0)] := hl
  unfold f_X8_run at hf
  refine k_aload_n E hl 0 dX8_run_0 rfl ?_
  refine k_iload_n E hl 1 dX8_run_1 rfl ?_
  obtain ⟨cd_1, hg, hf⟩ := ob hf
  by_cases hcd : cd_1 = 0
  rotate_left
  · have hf := oF hcd hf
    cases hf; exact absurd h0 hcd
  replace hf := oT hcd hf
  refine k_callVv (As := [.int v1_0]) (rest := []) (ws2 := fun u => (wMCo k a_th (a_in 0) (a_ou 0) (a_ru 0) (a_no 0) (a_fo 0) (a_rd 0) (a_pa 0) sv_th th_0 ++ wRules k a_ru ru_0 ++ wCourt k a_no no_0 ++ wPast k a_pa pp_0 pa_0) ++ poolW k pp_0 pa_0.2) (c_X8_needTicks n l k a_th a_in a_ou a_ru a_no a_fo a_rd a_pa sv_th th_0 v1_0 cd_1 hg hcd) E vl_X8_275 dX8_run_2 rfl [0] 8 0 hW hA hl rfl rfl rfl rfl ⟨by decide, by decide⟩ ⟨by decide, by decide⟩ (Nat.le_of_ble_eq_true rfl) rfl (fun _ => rfl) (fun _ => rfl) (fun u H locs hp hW => ?_)
  cases hp
  have hW : WD k A s.heap ((wMCo k a_th (a_in 0) (a_ou 0) (a_ru 0) (a_no 0) (a_fo 0) (a_rd 0) (a_pa 0) sv_th th_0 ++ wRules k a_ru ru_0 ++ wCourt k a_no no_0 ++ wPast k a_pa pp_0 pa_0) ++ poolW k pp_0 pa_0.2) H locs := hW
  refine k_aload_n E hl 0 dX8_run_5 rfl ?_
  refine gf_X8_31 E hW 0 rfl rfl dX8_run_6 ?_
  refine gf_X8_108 E hW 4 rfl rfl dX8_run_9 ?_
  refine k_iload_n E hl 1 dX8_run_12 rfl ?_
  refine lv_iadd E.hx E.hb dX8_run_13 ?_
  refine lv_sipush (v := (2000 : Int32)) E.hx E.hb dX8_run_14 sp_2000 ?_
  refine lv_icmp_le (tgt := 31) E.hx E.hb dX8_run_17 (by decide) (fun hc => ?_) (fun hc => ?_)
  · have hf := oT hc hf
    refine k_aload_n E hl 0 dX8_run_31 rfl ?_
    refine gf_X8_50 E hW 0 rfl rfl dX8_run_32 ?_
    refine k_aload_n E hl 0 dX8_run_35 rfl ?_
    refine gf_X8_31 E hW 0 rfl rfl dX8_run_36 ?_
    obtain ⟨pa_2, hg, hf⟩ := ob hf
    refine k_callGv (As := [.ref (a_no 0)]) (rest := []) (ws2 := fun u => (wMCo k a_th (a_in 0) (a_ou 0) (a_ru 0) (a_no 0) (a_fo 0) (a_rd 0) (a_pa 0) sv_th th_0 ++ wRules k a_ru ru_0 ++ wCourt k a_no no_0 ++ wPast k a_pa u.2 (u.1)) ++ poolW k u.2 (u.1).2) (c_X3_keep n l k a_no a_pa pp_0 pa_0 no_0 pa_2 hg) E vl_X8_283 dX8_run_39 rfl [4, 5, 6, 7, 8, 9, 10, 11, 12, 13, 14, 15, 16, 17] 4 16 hW hA hl rfl rfl rfl rfl ⟨by decide, by decide⟩ ⟨by decide, by decide⟩ (Nat.le_of_ble_eq_true rfl) rfl (fun _ => rfl) (fun _ => rfl) (fun u H locs hp hW => ?_)
    obtain ⟨u0, pp_3⟩ := u
    try dsimp only at hp
    cases hp
    have hW : WD k A s.heap ((wMCo k a_th (a_in 0) (a_ou 0) (a_ru 0) (a_no 0) (a_fo 0) (a_rd 0) (a_pa 0) sv_th th_0 ++ wRules k a_ru ru_0 ++ wCourt k a_no no_0 ++ wPast k a_pa pp_3 pa_2) ++ poolW k pp_3 pa_2.2) H locs := hW
    refine lv_iconst (v := (0 : Int32)) E.hx E.hb dX8_run_42 ic_0 ?_
    refine k_istore_n (lv' := [(2, .int (0 : Int32)), (0, .ref (a_th 0)), (1, .int v1_0)]) E rfl hl dX8_run_43 rfl (by decide) rfl (fun ls hl => ?_)
    refine lv_iconst (v := (0 : Int32)) E.hx E.hb dX8_run_44 ic_0 ?_
    refine k_istore_n (lv' := [(3, .int (0 : Int32)), (2, .int (0 : Int32)), (0, .ref (a_th 0)), (1, .int v1_0)]) E rfl hl dX8_run_45 rfl (by decide) rfl (fun ls hl => ?_)
    have L_46 : ∀ (N_46 : Nat) (no_j46 : OS) (pa_j46 : PS) (w2_j46 : Int32) (w3_j46 : Int32) (H : Heap) (locs : List Loc) (ls : Array Slot) (hW : WD k A s.heap ((wMCo k a_th (a_in 0) (a_ou 0) (a_ru 0) (a_no 0) (a_fo 0) (a_rd 0) (a_pa 0) sv_th th_0 ++ wRules k a_ru ru_0 ++ wCourt k a_no no_j46 ++ wPast k a_pa pp_3 pa_j46) ++ poolW k pp_3 pa_j46.2) H locs) (hl : lv_has ls 4 [(0, .ref (a_th 0)), (1, .int v1_0), (2, .int w2_j46), (3, .int w3_j46)]) (hf : l_X8_run_46 n sv_th th_0 ru_0 v1_0 N_46 no_j46 pa_j46 w2_j46 w3_j46 = some res), W p l e { frames := 6, cells := 13, slots := 2000, locals := 222 } s m args below meth c H locs 13 2000 Q (F0 m 46 ls []) := by
      intro N_46
      induction N_46 with
      | zero => intro no_j46 pa_j46 w2_j46 w3_j46 H locs ls hW hl hf; exact o0 hf
      | succ N_46 ih_46 =>
        intro no_j46 pa_j46 w2_j46 w3_j46 H locs ls hW hl hf
        have hf : s_X8_run_46 n sv_th th_0 ru_0 v1_0 (l_X8_run_46 n sv_th th_0 ru_0 v1_0 N_46) no_j46 pa_j46 w2_j46 w3_j46 = some res := hf
        unfold s_X8_run_46 at hf
        refine k_iload_n E hl 3 dX8_run_46 rfl ?_
        refine k_iload_n E hl 1 dX8_run_47 rfl ?_
        refine lv_icmp_ge (tgt := 71) E.hx E.hb dX8_run_48 (by decide) (fun hc => ?_) (fun hc => ?_)
        · have hf := oT hc hf
          refine k_iload_n E hl 2 dX8_run_71 rfl ?_
          exact hret _ (no_j46, pa_j46, pp_3) _ _ _ _ _ _ hW (Option.some.inj hf).symm rfl (by decide) (by decide) dX8_run_72
        · have hf := oF hc hf
          refine k_iload_n E hl 2 dX8_run_51 rfl ?_
          refine k_aload_n E hl 0 dX8_run_52 rfl ?_
          refine gf_X8_31 E hW 0 rfl rfl dX8_run_53 ?_
          refine k_aload_n E hl 0 dX8_run_56 rfl ?_
          refine gf_X8_24 E hW 0 rfl rfl dX8_run_57 ?_
          obtain ⟨no_4, r_5, hg, hf⟩ := ob2 hf
          refine k_callVi (As := [.ref (a_ru 0)]) (rest := [.int w2_j46]) (ws2 := fun u => (wMCo k a_th (a_in 0) (a_ou 0) (a_ru 0) (a_no 0) (a_fo 0) (a_rd 0) (a_pa 0) sv_th th_0 ++ wRules k a_ru ru_0 ++ wCourt k a_no (u) ++ wPast k a_pa pp_3 pa_j46) ++ poolW k pp_3 pa_j46.2) (c_X2_tick n l k a_no a_ru no_j46 ru_0 (no_4, r_5) hg) E vl_X8_286 dX8_run_60 rfl [4, 5, 6, 7, 8, 9, 10, 11, 12, 13, 14, 15, 1, 2, 3] 3 4 hW hA hl rfl rfl rfl rfl ⟨by decide, by decide⟩ ⟨by decide, by decide⟩ (Nat.le_of_ble_eq_true rfl) rfl (fun _ => rfl) (fun _ => rfl) (fun r u H locs hp hW => ?_)
          cases hp
          have hW : WD k A s.heap ((wMCo k a_th (a_in 0) (a_ou 0) (a_ru 0) (a_no 0) (a_fo 0) (a_rd 0) (a_pa 0) sv_th th_0 ++ wRules k a_ru ru_0 ++ wCourt k a_no no_4 ++ wPast k a_pa pp_3 pa_j46) ++ poolW k pp_3 pa_j46.2) H locs := hW
          refine lv_iadd E.hx E.hb dX8_run_63 ?_
          obtain ⟨v2_6, ev2_6, hf⟩ := oL hf
          refine k_istore_n (lv' := [(2, .int v2_6), (0, .ref (a_th 0)), (1, .int v1_0), (3, .int w3_j46)]) E ev2_6 hl dX8_run_64 rfl (by decide) rfl (fun ls hl => ?_)
          obtain ⟨v3_7, ev3_7, hf⟩ := oL hf
          refine k_iinc (lv' := [(3, .int v3_7), (2, .int v2_6), (0, .ref (a_th 0)), (1, .int v1_0)]) E hl 3 dX8_run_65 rfl (ev3_7.trans (congrArg (fun z => w3_j46 + z) ic_1.symm)) (by decide) rfl (fun ls hl => ?_)
          refine lv_goto (tgt := 46) E.hx E.hb dX8_run_68 (by decide) ?_
          exact ih_46 no_4 pa_j46 v2_6 v3_7 _ _ _ hW (lv_sub hl [2, 3, 1, 0] rfl) hf
    exact L_46 n no_0 pa_2 (0 : Int32) (0 : Int32) _ _ _ hW (lv_sub hl [2, 3, 1, 0] rfl) hf
  · have hf := oF hc hf
    cases hf
    exact absurd h0 (show ¬ (3 : Nat) = 0 from by decide)
def f_X8_ask (n : Nat) (sv_th : Value) (th_0 : OS) (ru_0 : OS) (no_0 : OS) (pa_0 : PS) (v1_0 : Int32) (v2_0 : Int32) (v3_0 : Int32) : Option (OS × PS × Int32 × Nat) :=
  bnd (f_X8_needProcess n sv_th th_0 ru_0 v1_0) (fun (cd_1 : Nat) =>
  if cd_1 = 0 then (
  if v2_0 < (1 : Int32) then (
  some (no_0, pa_0, (0 : Int32), 2)) else (
  if (ru_0.1 0) < v2_0 then (
  some (no_0, pa_0, (0 : Int32), 2)) else (
  if v3_0 < (1 : Int32) then (
  some (no_0, pa_0, (0 : Int32), 2)) else (
  if v3_0 ≤ (99 : Int32) then (
  if (no_0.1 4) < (60 : Int32) then (
  bnd (f_X3_keep n pa_0 no_0) (fun (pa_2 : PS) =>
  bnd2 (f_X2_addClaim n no_0 v1_0 v2_0 v3_0) (fun (no_4 : OS) (r_5 : Int32) =>
  some (no_4, pa_2, r_5, 0)))) else (
  some (no_0, pa_0, (0 : Int32), 3))) else (
  some (no_0, pa_0, (0 : Int32), 2)))))) else (
  some (no_0, pa_0, (0 : Int32), cd_1)))
set_option maxHeartbeats 4000000 in
set_option maxRecDepth 100000 in
theorem c_X8_ask (n : Nat) (l : Launch) (k : KT) (a_th : Nat → Nat) (a_in : Nat → Nat) (a_ou : Nat → Nat) (a_ru : Nat → Nat) (a_no : Nat → Nat) (a_fo : Nat → Nat) (a_rd : Nat → Nat) (a_pa : Nat → Nat) (pp_0 : Nat → Nat → Nat) (sv_th : Value) (th_0 : OS) (ru_0 : OS) (no_0 : OS) (pa_0 : PS) (v1_0 : Int32) (v2_0 : Int32) (v3_0 : Int32) (res : (OS × PS × Int32 × Nat)) (hf : f_X8_ask n sv_th th_0 ru_0 no_0 pa_0 v1_0 v2_0 v3_0 = some res) (h0 : res.2.2.2 = 0) : CG l k yX8_ask cX8_ask 4 (some .int) 5 13 2000 222 [.ref (a_th 0), .int v1_0, .int v2_0, .int v3_0] ((wMCo k a_th (a_in 0) (a_ou 0) (a_ru 0) (a_no 0) (a_fo 0) (a_rd 0) (a_pa 0) sv_th th_0 ++ wRules k a_ru ru_0 ++ wCourt k a_no no_0 ++ wPast k a_pa pp_0 pa_0) ++ poolW k pp_0 pa_0.2) (Qi k (fun u : (OS) × (PS) × (Nat → Nat → Nat) => (wMCo k a_th (a_in 0) (a_ou 0) (a_ru 0) (a_no 0) (a_fo 0) (a_rd 0) (a_pa 0) sv_th th_0 ++ wRules k a_ru ru_0 ++ wCourt k a_no (u.1) ++ wPast k a_pa (u.2.2) (u.2.1)) ++ poolW k (u.2.2) (u.2.1).2) (fun (r : Int32) (u : (OS) × (PS) × (Nat → Nat → Nat)) => res = (u.1, u.2.1, r, 0))) := by
  refine CG.ofI (by decide) (Nat.le_of_ble_eq_true rfl) (fun p e s m args below meth c A Q E hnm hW hA hret ls hl => ?_)
  have hl : lv_has ls 4 [(0, .ref (a_th 0)), (1, .int v1_0), (2, .int v2_0), (3, .int v3_0)] := hl
  unfold f_X8_ask at hf
  refine k_aload_n E hl 0 dX8_ask_0 rfl ?_
  refine k_iload_n E hl 1 dX8_ask_1 rfl ?_
  obtain ⟨cd_1, hg, hf⟩ := ob hf
  by_cases hcd : cd_1 = 0
  rotate_left
  · have hf := oF hcd hf
    cases hf; exact absurd h0 hcd
  replace hf := oT hcd hf
  refine k_callVv (As := [.int v1_0]) (rest := []) (ws2 := fun u => (wMCo k a_th (a_in 0) (a_ou 0) (a_ru 0) (a_no 0) (a_fo 0) (a_rd 0) (a_pa 0) sv_th th_0 ++ wRules k a_ru ru_0 ++ wCourt k a_no no_0 ++ wPast k a_pa pp_0 pa_0) ++ poolW k pp_0 pa_0.2) (c_X8_needProcess n l k a_th a_in a_ou a_ru a_no a_fo a_rd a_pa sv_th th_0 ru_0 v1_0 cd_1 hg hcd) E vl_X8_165 dX8_ask_2 rfl [0, 1, 2, 3] 8 0 hW hA hl rfl rfl rfl rfl ⟨by decide, by decide⟩ ⟨by decide, by decide⟩ (Nat.le_of_ble_eq_true rfl) rfl (fun _ => rfl) (fun _ => rfl) (fun u H locs hp hW => ?_)
  cases hp
  have hW : WD k A s.heap ((wMCo k a_th (a_in 0) (a_ou 0) (a_ru 0) (a_no 0) (a_fo 0) (a_rd 0) (a_pa 0) sv_th th_0 ++ wRules k a_ru ru_0 ++ wCourt k a_no no_0 ++ wPast k a_pa pp_0 pa_0) ++ poolW k pp_0 pa_0.2) H locs := hW
  refine k_iload_n E hl 2 dX8_ask_5 rfl ?_
  refine lv_iconst (v := (1 : Int32)) E.hx E.hb dX8_ask_6 ic_1 ?_
  refine lv_icmp_lt (tgt := 32) E.hx E.hb dX8_ask_7 (by decide) (fun hc => ?_) (fun hc => ?_)
  · have hf := oT hc hf
    cases hf
    exact absurd h0 (show ¬ (2 : Nat) = 0 from by decide)
  · have hf := oF hc hf
    refine k_iload_n E hl 2 dX8_ask_10 rfl ?_
    refine k_aload_n E hl 0 dX8_ask_11 rfl ?_
    refine gf_X8_24 E hW 0 rfl rfl dX8_ask_12 ?_
    refine gf_X8_105 E hW 1 rfl rfl dX8_ask_15 ?_
    refine lv_icmp_gt (tgt := 32) E.hx E.hb dX8_ask_18 (by decide) (fun hc => ?_) (fun hc => ?_)
    · have hf := oT hc hf
      cases hf
      exact absurd h0 (show ¬ (2 : Nat) = 0 from by decide)
    · have hf := oF hc hf
      refine k_iload_n E hl 3 dX8_ask_21 rfl ?_
      refine lv_iconst (v := (1 : Int32)) E.hx E.hb dX8_ask_22 ic_1 ?_
      refine lv_icmp_lt (tgt := 32) E.hx E.hb dX8_ask_23 (by decide) (fun hc => ?_) (fun hc => ?_)
      · have hf := oT hc hf
        cases hf
        exact absurd h0 (show ¬ (2 : Nat) = 0 from by decide)
      · have hf := oF hc hf
        refine k_iload_n E hl 3 dX8_ask_26 rfl ?_
        refine lv_bipush (v := (99 : Int32)) E.hx E.hb dX8_ask_27 bp_99 ?_
        refine lv_icmp_le (tgt := 43) E.hx E.hb dX8_ask_29 (by decide) (fun hc => ?_) (fun hc => ?_)
        · have hf := oT hc hf
          refine k_aload_n E hl 0 dX8_ask_43 rfl ?_
          refine gf_X8_31 E hW 0 rfl rfl dX8_ask_44 ?_
          refine gf_X8_142 E hW 4 rfl rfl dX8_ask_47 ?_
          refine lv_bipush (v := (60 : Int32)) E.hx E.hb dX8_ask_50 bp_60 ?_
          refine lv_icmp_lt (tgt := 66) E.hx E.hb dX8_ask_52 (by decide) (fun hc => ?_) (fun hc => ?_)
          · have hf := oT hc hf
            refine k_aload_n E hl 0 dX8_ask_66 rfl ?_
            refine gf_X8_50 E hW 0 rfl rfl dX8_ask_67 ?_
            refine k_aload_n E hl 0 dX8_ask_70 rfl ?_
            refine gf_X8_31 E hW 0 rfl rfl dX8_ask_71 ?_
            obtain ⟨pa_2, hg, hf⟩ := ob hf
            refine k_callGv (As := [.ref (a_no 0)]) (rest := []) (ws2 := fun u => (wMCo k a_th (a_in 0) (a_ou 0) (a_ru 0) (a_no 0) (a_fo 0) (a_rd 0) (a_pa 0) sv_th th_0 ++ wRules k a_ru ru_0 ++ wCourt k a_no no_0 ++ wPast k a_pa u.2 (u.1)) ++ poolW k u.2 (u.1).2) (c_X3_keep n l k a_no a_pa pp_0 pa_0 no_0 pa_2 hg) E vl_X8_283 dX8_ask_74 rfl [4, 5, 6, 7, 8, 9, 10, 11, 12, 13, 14, 15, 16, 17] 4 16 hW hA hl rfl rfl rfl rfl ⟨by decide, by decide⟩ ⟨by decide, by decide⟩ (Nat.le_of_ble_eq_true rfl) rfl (fun _ => rfl) (fun _ => rfl) (fun u H locs hp hW => ?_)
            obtain ⟨u0, pp_3⟩ := u
            try dsimp only at hp
            cases hp
            have hW : WD k A s.heap ((wMCo k a_th (a_in 0) (a_ou 0) (a_ru 0) (a_no 0) (a_fo 0) (a_rd 0) (a_pa 0) sv_th th_0 ++ wRules k a_ru ru_0 ++ wCourt k a_no no_0 ++ wPast k a_pa pp_3 pa_2) ++ poolW k pp_3 pa_2.2) H locs := hW
            refine k_aload_n E hl 0 dX8_ask_77 rfl ?_
            refine gf_X8_31 E hW 0 rfl rfl dX8_ask_78 ?_
            refine k_iload_n E hl 1 dX8_ask_81 rfl ?_
            refine k_iload_n E hl 2 dX8_ask_82 rfl ?_
            refine k_iload_n E hl 3 dX8_ask_83 rfl ?_
            obtain ⟨no_4, r_5, hg, hf⟩ := ob2 hf
            refine k_callVi (As := [.int v1_0, .int v2_0, .int v3_0]) (rest := []) (ws2 := fun u => (wMCo k a_th (a_in 0) (a_ou 0) (a_ru 0) (a_no 0) (a_fo 0) (a_rd 0) (a_pa 0) sv_th th_0 ++ wRules k a_ru ru_0 ++ wCourt k a_no (u) ++ wPast k a_pa pp_3 pa_2) ++ poolW k pp_3 pa_2.2) (c_X2_addClaim n l k a_no no_0 v1_0 v2_0 v3_0 (no_4, r_5) hg) E vl_X8_294 dX8_ask_84 rfl [4, 5, 6, 7, 8, 9, 10, 11, 12, 13, 14, 15] 3 4 hW hA hl rfl rfl rfl rfl ⟨by decide, by decide⟩ ⟨by decide, by decide⟩ (Nat.le_of_ble_eq_true rfl) rfl (fun _ => rfl) (fun _ => rfl) (fun r u H locs hp hW => ?_)
            cases hp
            have hW : WD k A s.heap ((wMCo k a_th (a_in 0) (a_ou 0) (a_ru 0) (a_no 0) (a_fo 0) (a_rd 0) (a_pa 0) sv_th th_0 ++ wRules k a_ru ru_0 ++ wCourt k a_no no_4 ++ wPast k a_pa pp_3 pa_2) ++ poolW k pp_3 pa_2.2) H locs := hW
            exact hret _ (no_4, pa_2, pp_3) _ _ _ _ _ _ hW (Option.some.inj hf).symm rfl (by decide) (by decide) dX8_ask_87
          · have hf := oF hc hf
            cases hf
            exact absurd h0 (show ¬ (3 : Nat) = 0 from by decide)
        · have hf := oF hc hf
          cases hf
          exact absurd h0 (show ¬ (2 : Nat) = 0 from by decide)
def f_X8_giveBack (n : Nat) (sv_th : Value) (th_0 : OS) (no_0 : OS) (pa_0 : PS) (v1_0 : Int32) (v2_0 : Int32) : Option (OS × PS × Int32 × Nat) :=
  bnd (f_X8_needLoan n sv_th th_0 no_0 v1_0) (fun (cd_1 : Nat) =>
  if cd_1 = 0 then (
  if v2_0 < (1 : Int32) then (
  some (no_0, pa_0, (0 : Int32), 2)) else (
  bnd (f_X6_get n (8 : Int32) 640 (no_0.2.1 12) v1_0 (1 : Int32)) (fun (r_2 : Int32) =>
  if v2_0 ≤ r_2 then (
  bnd (f_X3_keep n pa_0 no_0) (fun (pa_3 : PS) =>
  bnd (f_X2_release n no_0 v1_0 v2_0) (fun (no_5 : OS) =>
  bnd (f_X6_get n (8 : Int32) 640 (no_5.2.1 12) v1_0 (1 : Int32)) (fun (r_6 : Int32) =>
  some (no_5, pa_3, r_6, 0))))) else (
  some (no_0, pa_0, (0 : Int32), 2))))) else (
  some (no_0, pa_0, (0 : Int32), cd_1)))
set_option maxHeartbeats 4000000 in
set_option maxRecDepth 100000 in
theorem c_X8_giveBack (n : Nat) (l : Launch) (k : KT) (a_th : Nat → Nat) (a_in : Nat → Nat) (a_ou : Nat → Nat) (a_ru : Nat → Nat) (a_no : Nat → Nat) (a_fo : Nat → Nat) (a_rd : Nat → Nat) (a_pa : Nat → Nat) (pp_0 : Nat → Nat → Nat) (sv_th : Value) (th_0 : OS) (no_0 : OS) (pa_0 : PS) (v1_0 : Int32) (v2_0 : Int32) (res : (OS × PS × Int32 × Nat)) (hf : f_X8_giveBack n sv_th th_0 no_0 pa_0 v1_0 v2_0 = some res) (h0 : res.2.2.2 = 0) : CG l k yX8_giveBack cX8_giveBack 3 (some .int) 5 13 2000 222 [.ref (a_th 0), .int v1_0, .int v2_0] ((wMCo k a_th (a_in 0) (a_ou 0) (a_ru 0) (a_no 0) (a_fo 0) (a_rd 0) (a_pa 0) sv_th th_0 ++ wCourt k a_no no_0 ++ wPast k a_pa pp_0 pa_0) ++ poolW k pp_0 pa_0.2) (Qi k (fun u : (OS) × (PS) × (Nat → Nat → Nat) => (wMCo k a_th (a_in 0) (a_ou 0) (a_ru 0) (a_no 0) (a_fo 0) (a_rd 0) (a_pa 0) sv_th th_0 ++ wCourt k a_no (u.1) ++ wPast k a_pa (u.2.2) (u.2.1)) ++ poolW k (u.2.2) (u.2.1).2) (fun (r : Int32) (u : (OS) × (PS) × (Nat → Nat → Nat)) => res = (u.1, u.2.1, r, 0))) := by
  refine CG.ofI (by decide) (Nat.le_of_ble_eq_true rfl) (fun p e s m args below meth c A Q E hnm hW hA hret ls hl => ?_)
  have hl : lv_has ls 3 [(0, .ref (a_th 0)), (1, .int v1_0), (2, .int v2_0)] := hl
  unfold f_X8_giveBack at hf
  refine k_aload_n E hl 0 dX8_giveBack_0 rfl ?_
  refine k_iload_n E hl 1 dX8_giveBack_1 rfl ?_
  obtain ⟨cd_1, hg, hf⟩ := ob hf
  by_cases hcd : cd_1 = 0
  rotate_left
  · have hf := oF hcd hf
    cases hf; exact absurd h0 hcd
  replace hf := oT hcd hf
  refine k_callVv (As := [.int v1_0]) (rest := []) (ws2 := fun u => (wMCo k a_th (a_in 0) (a_ou 0) (a_ru 0) (a_no 0) (a_fo 0) (a_rd 0) (a_pa 0) sv_th th_0 ++ wCourt k a_no no_0 ++ wPast k a_pa pp_0 pa_0) ++ poolW k pp_0 pa_0.2) (c_X8_needLoan n l k a_th a_in a_ou a_ru a_no a_fo a_rd a_pa sv_th th_0 no_0 v1_0 cd_1 hg hcd) E vl_X8_186 dX8_giveBack_2 rfl [0, 1, 2, 3, 4, 5, 6, 7, 8, 9, 10, 11, 12] 8 0 hW hA hl rfl rfl rfl rfl ⟨by decide, by decide⟩ ⟨by decide, by decide⟩ (Nat.le_of_ble_eq_true rfl) rfl (fun _ => rfl) (fun _ => rfl) (fun u H locs hp hW => ?_)
  cases hp
  have hW : WD k A s.heap ((wMCo k a_th (a_in 0) (a_ou 0) (a_ru 0) (a_no 0) (a_fo 0) (a_rd 0) (a_pa 0) sv_th th_0 ++ wCourt k a_no no_0 ++ wPast k a_pa pp_0 pa_0) ++ poolW k pp_0 pa_0.2) H locs := hW
  refine k_iload_n E hl 2 dX8_giveBack_5 rfl ?_
  refine lv_iconst (v := (1 : Int32)) E.hx E.hb dX8_giveBack_6 ic_1 ?_
  refine lv_icmp_lt (tgt := 26) E.hx E.hb dX8_giveBack_7 (by decide) (fun hc => ?_) (fun hc => ?_)
  · have hf := oT hc hf
    cases hf
    exact absurd h0 (show ¬ (2 : Nat) = 0 from by decide)
  · have hf := oF hc hf
    refine k_iload_n E hl 2 dX8_giveBack_10 rfl ?_
    refine k_aload_n E hl 0 dX8_giveBack_11 rfl ?_
    refine gf_X8_31 E hW 0 rfl rfl dX8_giveBack_12 ?_
    refine gf_X8_195 E hW 1 rfl rfl dX8_giveBack_15 ?_
    refine k_iload_n E hl 1 dX8_giveBack_18 rfl ?_
    refine lv_iconst (v := (1 : Int32)) E.hx E.hb dX8_giveBack_19 ic_1 ?_
    obtain ⟨r_2, hg, hf⟩ := ob hf
    refine k_callVi (As := [.int v1_0, .int (1 : Int32)]) (rest := [.int v2_0]) (ws2 := fun u => (wMCo k a_th (a_in 0) (a_ou 0) (a_ru 0) (a_no 0) (a_fo 0) (a_rd 0) (a_pa 0) sv_th th_0 ++ wCourt k a_no no_0 ++ wPast k a_pa pp_0 pa_0) ++ poolW k pp_0 pa_0.2) (c_X6_get n l k (fun j => a_no (5 + j)) (8 : Int32) 640 (no_0.2.1 12) v1_0 (1 : Int32) r_2 hg) E vl_X8_171 dX8_giveBack_20 rfl [6, 7] 7 6 hW hA hl rfl rfl rfl rfl ⟨by decide, by decide⟩ ⟨by decide, by decide⟩ (Nat.le_of_ble_eq_true rfl) rfl (fun _ => rfl) (fun _ => rfl) (fun r u H locs hp hW => ?_)
    cases hp
    have hW : WD k A s.heap ((wMCo k a_th (a_in 0) (a_ou 0) (a_ru 0) (a_no 0) (a_fo 0) (a_rd 0) (a_pa 0) sv_th th_0 ++ wCourt k a_no no_0 ++ wPast k a_pa pp_0 pa_0) ++ poolW k pp_0 pa_0.2) H locs := hW
    refine lv_icmp_le (tgt := 37) E.hx E.hb dX8_giveBack_23 (by decide) (fun hc => ?_) (fun hc => ?_)
    · have hf := oT hc hf
      refine k_aload_n E hl 0 dX8_giveBack_37 rfl ?_
      refine gf_X8_50 E hW 0 rfl rfl dX8_giveBack_38 ?_
      refine k_aload_n E hl 0 dX8_giveBack_41 rfl ?_
      refine gf_X8_31 E hW 0 rfl rfl dX8_giveBack_42 ?_
      obtain ⟨pa_3, hg, hf⟩ := ob hf
      refine k_callGv (As := [.ref (a_no 0)]) (rest := []) (ws2 := fun u => (wMCo k a_th (a_in 0) (a_ou 0) (a_ru 0) (a_no 0) (a_fo 0) (a_rd 0) (a_pa 0) sv_th th_0 ++ wCourt k a_no no_0 ++ wPast k a_pa u.2 (u.1)) ++ poolW k u.2 (u.1).2) (c_X3_keep n l k a_no a_pa pp_0 pa_0 no_0 pa_3 hg) E vl_X8_283 dX8_giveBack_45 rfl [1, 2, 3, 4, 5, 6, 7, 8, 9, 10, 11, 12, 13, 14] 4 13 hW hA hl rfl rfl rfl rfl ⟨by decide, by decide⟩ ⟨by decide, by decide⟩ (Nat.le_of_ble_eq_true rfl) rfl (fun _ => rfl) (fun _ => rfl) (fun u H locs hp hW => ?_)
      obtain ⟨u0, pp_4⟩ := u
      try dsimp only at hp
      cases hp
      have hW : WD k A s.heap ((wMCo k a_th (a_in 0) (a_ou 0) (a_ru 0) (a_no 0) (a_fo 0) (a_rd 0) (a_pa 0) sv_th th_0 ++ wCourt k a_no no_0 ++ wPast k a_pa pp_4 pa_3) ++ poolW k pp_4 pa_3.2) H locs := hW
      refine k_aload_n E hl 0 dX8_giveBack_48 rfl ?_
      refine gf_X8_31 E hW 0 rfl rfl dX8_giveBack_49 ?_
      refine k_iload_n E hl 1 dX8_giveBack_52 rfl ?_
      refine k_iload_n E hl 2 dX8_giveBack_53 rfl ?_
      obtain ⟨no_5, hg, hf⟩ := ob hf
      refine k_callVv (As := [.int v1_0, .int v2_0]) (rest := []) (ws2 := fun u => (wMCo k a_th (a_in 0) (a_ou 0) (a_ru 0) (a_no 0) (a_fo 0) (a_rd 0) (a_pa 0) sv_th th_0 ++ wCourt k a_no (u) ++ wPast k a_pa pp_4 pa_3) ++ poolW k pp_4 pa_3.2) (c_X2_release n l k a_no no_0 v1_0 v2_0 no_5 hg) E vl_X8_309 dX8_giveBack_54 rfl [1, 2, 3, 4, 5, 6, 7, 8, 9, 10, 11, 12] 3 1 hW hA hl rfl rfl rfl rfl ⟨by decide, by decide⟩ ⟨by decide, by decide⟩ (Nat.le_of_ble_eq_true rfl) rfl (fun _ => rfl) (fun _ => rfl) (fun u H locs hp hW => ?_)
      cases hp
      have hW : WD k A s.heap ((wMCo k a_th (a_in 0) (a_ou 0) (a_ru 0) (a_no 0) (a_fo 0) (a_rd 0) (a_pa 0) sv_th th_0 ++ wCourt k a_no no_5 ++ wPast k a_pa pp_4 pa_3) ++ poolW k pp_4 pa_3.2) H locs := hW
      refine k_aload_n E hl 0 dX8_giveBack_57 rfl ?_
      refine gf_X8_31 E hW 0 rfl rfl dX8_giveBack_58 ?_
      refine gf_X8_195 E hW 1 rfl rfl dX8_giveBack_61 ?_
      refine k_iload_n E hl 1 dX8_giveBack_64 rfl ?_
      refine lv_iconst (v := (1 : Int32)) E.hx E.hb dX8_giveBack_65 ic_1 ?_
      obtain ⟨r_6, hg, hf⟩ := ob hf
      refine k_callVi (As := [.int v1_0, .int (1 : Int32)]) (rest := []) (ws2 := fun u => (wMCo k a_th (a_in 0) (a_ou 0) (a_ru 0) (a_no 0) (a_fo 0) (a_rd 0) (a_pa 0) sv_th th_0 ++ wCourt k a_no no_5 ++ wPast k a_pa pp_4 pa_3) ++ poolW k pp_4 pa_3.2) (c_X6_get n l k (fun j => a_no (5 + j)) (8 : Int32) 640 (no_5.2.1 12) v1_0 (1 : Int32) r_6 hg) E vl_X8_171 dX8_giveBack_66 rfl [6, 7] 7 6 hW hA hl rfl rfl rfl rfl ⟨by decide, by decide⟩ ⟨by decide, by decide⟩ (Nat.le_of_ble_eq_true rfl) rfl (fun _ => rfl) (fun _ => rfl) (fun r u H locs hp hW => ?_)
      cases hp
      have hW : WD k A s.heap ((wMCo k a_th (a_in 0) (a_ou 0) (a_ru 0) (a_no 0) (a_fo 0) (a_rd 0) (a_pa 0) sv_th th_0 ++ wCourt k a_no no_5 ++ wPast k a_pa pp_4 pa_3) ++ poolW k pp_4 pa_3.2) H locs := hW
      exact hret _ (no_5, pa_3, pp_4) _ _ _ _ _ _ hW (Option.some.inj hf).symm rfl (by decide) (by decide) dX8_giveBack_69
    · have hf := oF hc hf
      cases hf
      exact absurd h0 (show ¬ (2 : Nat) = 0 from by decide)
def f_X8_stall (n : Nat) (sv_th : Value) (th_0 : OS) (ru_0 : OS) (no_0 : OS) (pa_0 : PS) (v1_0 : Int32) (v2_0 : Int32) : Option (OS × PS × Int32 × Nat) :=
  bnd (f_X8_needProcess n sv_th th_0 ru_0 v1_0) (fun (cd_1 : Nat) =>
  if cd_1 = 0 then (
  if v2_0 < 0 then (
  some (no_0, pa_0, (0 : Int32), 2)) else (
  if v2_0 ≤ (99 : Int32) then (
  bnd (f_X3_keep n pa_0 no_0) (fun (pa_2 : PS) =>
  bnd (f_X6_get n (5 : Int32) 40 (no_0.2.1 11) v1_0 (2 : Int32)) (fun (r_4 : Int32) =>
  bnd (f_X6_set n (5 : Int32) 40 (no_0.2.1 11) v1_0 (2 : Int32) v2_0) (fun (y_5 : Nat → Int32) =>
  Let (sA no_0 11 y_5) (fun no_6 : OS =>
  some (no_6, pa_2, r_4, 0)))))) else (
  some (no_0, pa_0, (0 : Int32), 2)))) else (
  some (no_0, pa_0, (0 : Int32), cd_1)))
set_option maxHeartbeats 4000000 in
set_option maxRecDepth 100000 in
theorem c_X8_stall (n : Nat) (l : Launch) (k : KT) (a_th : Nat → Nat) (a_in : Nat → Nat) (a_ou : Nat → Nat) (a_ru : Nat → Nat) (a_no : Nat → Nat) (a_fo : Nat → Nat) (a_rd : Nat → Nat) (a_pa : Nat → Nat) (pp_0 : Nat → Nat → Nat) (sv_th : Value) (th_0 : OS) (ru_0 : OS) (no_0 : OS) (pa_0 : PS) (v1_0 : Int32) (v2_0 : Int32) (res : (OS × PS × Int32 × Nat)) (hf : f_X8_stall n sv_th th_0 ru_0 no_0 pa_0 v1_0 v2_0 = some res) (h0 : res.2.2.2 = 0) : CG l k yX8_stall cX8_stall 4 (some .int) 5 13 2000 222 [.ref (a_th 0), .int v1_0, .int v2_0] ((wMCo k a_th (a_in 0) (a_ou 0) (a_ru 0) (a_no 0) (a_fo 0) (a_rd 0) (a_pa 0) sv_th th_0 ++ wRules k a_ru ru_0 ++ wCourt k a_no no_0 ++ wPast k a_pa pp_0 pa_0) ++ poolW k pp_0 pa_0.2) (Qi k (fun u : (OS) × (PS) × (Nat → Nat → Nat) => (wMCo k a_th (a_in 0) (a_ou 0) (a_ru 0) (a_no 0) (a_fo 0) (a_rd 0) (a_pa 0) sv_th th_0 ++ wRules k a_ru ru_0 ++ wCourt k a_no (u.1) ++ wPast k a_pa (u.2.2) (u.2.1)) ++ poolW k (u.2.2) (u.2.1).2) (fun (r : Int32) (u : (OS) × (PS) × (Nat → Nat → Nat)) => res = (u.1, u.2.1, r, 0))) := by
  refine CG.ofI (by decide) (Nat.le_of_ble_eq_true rfl) (fun p e s m args below meth c A Q E hnm hW hA hret ls hl => ?_)
  have hl : lv_has ls 4 [(0, .ref (a_th 0)), (1, .int v1_0), (2, .int v2_0)] := hl
  unfold f_X8_stall at hf
  refine k_aload_n E hl 0 dX8_stall_0 rfl ?_
  refine k_iload_n E hl 1 dX8_stall_1 rfl ?_
  obtain ⟨cd_1, hg, hf⟩ := ob hf
  by_cases hcd : cd_1 = 0
  rotate_left
  · have hf := oF hcd hf
    cases hf; exact absurd h0 hcd
  replace hf := oT hcd hf
  refine k_callVv (As := [.int v1_0]) (rest := []) (ws2 := fun u => (wMCo k a_th (a_in 0) (a_ou 0) (a_ru 0) (a_no 0) (a_fo 0) (a_rd 0) (a_pa 0) sv_th th_0 ++ wRules k a_ru ru_0 ++ wCourt k a_no no_0 ++ wPast k a_pa pp_0 pa_0) ++ poolW k pp_0 pa_0.2) (c_X8_needProcess n l k a_th a_in a_ou a_ru a_no a_fo a_rd a_pa sv_th th_0 ru_0 v1_0 cd_1 hg hcd) E vl_X8_165 dX8_stall_2 rfl [0, 1, 2, 3] 8 0 hW hA hl rfl rfl rfl rfl ⟨by decide, by decide⟩ ⟨by decide, by decide⟩ (Nat.le_of_ble_eq_true rfl) rfl (fun _ => rfl) (fun _ => rfl) (fun u H locs hp hW => ?_)
  cases hp
  have hW : WD k A s.heap ((wMCo k a_th (a_in 0) (a_ou 0) (a_ru 0) (a_no 0) (a_fo 0) (a_rd 0) (a_pa 0) sv_th th_0 ++ wRules k a_ru ru_0 ++ wCourt k a_no no_0 ++ wPast k a_pa pp_0 pa_0) ++ poolW k pp_0 pa_0.2) H locs := hW
  refine k_iload_n E hl 2 dX8_stall_5 rfl ?_
  refine lv_if_lt (tgt := 15) E.hx E.hb dX8_stall_6 (by decide) (fun hc => ?_) (fun hc => ?_)
  · have hf := oT hc hf
    cases hf
    exact absurd h0 (show ¬ (2 : Nat) = 0 from by decide)
  · have hf := oF hc hf
    refine k_iload_n E hl 2 dX8_stall_9 rfl ?_
    refine lv_bipush (v := (99 : Int32)) E.hx E.hb dX8_stall_10 bp_99 ?_
    refine lv_icmp_le (tgt := 26) E.hx E.hb dX8_stall_12 (by decide) (fun hc => ?_) (fun hc => ?_)
    · have hf := oT hc hf
      refine k_aload_n E hl 0 dX8_stall_26 rfl ?_
      refine gf_X8_50 E hW 0 rfl rfl dX8_stall_27 ?_
      refine k_aload_n E hl 0 dX8_stall_30 rfl ?_
      refine gf_X8_31 E hW 0 rfl rfl dX8_stall_31 ?_
      obtain ⟨pa_2, hg, hf⟩ := ob hf
      refine k_callGv (As := [.ref (a_no 0)]) (rest := []) (ws2 := fun u => (wMCo k a_th (a_in 0) (a_ou 0) (a_ru 0) (a_no 0) (a_fo 0) (a_rd 0) (a_pa 0) sv_th th_0 ++ wRules k a_ru ru_0 ++ wCourt k a_no no_0 ++ wPast k a_pa u.2 (u.1)) ++ poolW k u.2 (u.1).2) (c_X3_keep n l k a_no a_pa pp_0 pa_0 no_0 pa_2 hg) E vl_X8_283 dX8_stall_34 rfl [4, 5, 6, 7, 8, 9, 10, 11, 12, 13, 14, 15, 16, 17] 4 16 hW hA hl rfl rfl rfl rfl ⟨by decide, by decide⟩ ⟨by decide, by decide⟩ (Nat.le_of_ble_eq_true rfl) rfl (fun _ => rfl) (fun _ => rfl) (fun u H locs hp hW => ?_)
      obtain ⟨u0, pp_3⟩ := u
      try dsimp only at hp
      cases hp
      have hW : WD k A s.heap ((wMCo k a_th (a_in 0) (a_ou 0) (a_ru 0) (a_no 0) (a_fo 0) (a_rd 0) (a_pa 0) sv_th th_0 ++ wRules k a_ru ru_0 ++ wCourt k a_no no_0 ++ wPast k a_pa pp_3 pa_2) ++ poolW k pp_3 pa_2.2) H locs := hW
      refine k_aload_n E hl 0 dX8_stall_37 rfl ?_
      refine gf_X8_31 E hW 0 rfl rfl dX8_stall_38 ?_
      refine gf_X8_168 E hW 4 rfl rfl dX8_stall_41 ?_
      refine k_iload_n E hl 1 dX8_stall_44 rfl ?_
      refine lv_iconst (v := (2 : Int32)) E.hx E.hb dX8_stall_45 ic_2 ?_
      obtain ⟨r_4, hg, hf⟩ := ob hf
      refine k_callVi (As := [.int v1_0, .int (2 : Int32)]) (rest := []) (ws2 := fun u => (wMCo k a_th (a_in 0) (a_ou 0) (a_ru 0) (a_no 0) (a_fo 0) (a_rd 0) (a_pa 0) sv_th th_0 ++ wRules k a_ru ru_0 ++ wCourt k a_no no_0 ++ wPast k a_pa pp_3 pa_2) ++ poolW k pp_3 pa_2.2) (c_X6_get n l k (fun j => a_no (3 + j)) (5 : Int32) 40 (no_0.2.1 11) v1_0 (2 : Int32) r_4 hg) E vl_X8_171 dX8_stall_46 rfl [7, 8] 7 7 hW hA hl rfl rfl rfl rfl ⟨by decide, by decide⟩ ⟨by decide, by decide⟩ (Nat.le_of_ble_eq_true rfl) rfl (fun _ => rfl) (fun _ => rfl) (fun r u H locs hp hW => ?_)
      cases hp
      have hW : WD k A s.heap ((wMCo k a_th (a_in 0) (a_ou 0) (a_ru 0) (a_no 0) (a_fo 0) (a_rd 0) (a_pa 0) sv_th th_0 ++ wRules k a_ru ru_0 ++ wCourt k a_no no_0 ++ wPast k a_pa pp_3 pa_2) ++ poolW k pp_3 pa_2.2) H locs := hW
      refine k_istore_n (lv' := [(3, .int r_4), (0, .ref (a_th 0)), (1, .int v1_0), (2, .int v2_0)]) E rfl hl dX8_stall_49 rfl (by decide) rfl (fun ls hl => ?_)
      refine k_aload_n E hl 1 dX8_stall_50 rfl ?_
      refine gf_X8_31 E hW 0 rfl rfl dX8_stall_51 ?_
      refine gf_X8_168 E hW 4 rfl rfl dX8_stall_54 ?_
      refine k_iload_n E hl 2 dX8_stall_57 rfl ?_
      refine lv_iconst (v := (2 : Int32)) E.hx E.hb dX8_stall_58 ic_2 ?_
      refine k_iload_n E hl 3 dX8_stall_59 rfl ?_
      obtain ⟨y_5, hg, hf⟩ := ob hf
      obtain ⟨no_6, eno_6, hf⟩ := oL hf
      refine k_callVv (As := [.int v1_0, .int (2 : Int32), .int v2_0]) (rest := []) (ws2 := fun u => (wMCo k a_th (a_in 0) (a_ou 0) (a_ru 0) (a_no 0) (a_fo 0) (a_rd 0) (a_pa 0) sv_th th_0 ++ wRules k a_ru ru_0 ++ wCourt k a_no (sA no_0 11 (u)) ++ wPast k a_pa pp_3 pa_2) ++ poolW k pp_3 pa_2.2) (c_X6_set n l k (fun j => a_no (3 + j)) (5 : Int32) 40 (no_0.2.1 11) v1_0 (2 : Int32) v2_0 y_5 hg) E vl_X8_303 dX8_stall_60 rfl [7, 8] 7 7 hW hA hl rfl rfl rfl rfl ⟨by decide, by decide⟩ ⟨by decide, by decide⟩ (Nat.le_of_ble_eq_true rfl) rfl (fun _ => rfl) (fun _ => rfl) (fun u H locs hp hW => ?_)
      cases hp
      have hW : WD k A s.heap ((wMCo k a_th (a_in 0) (a_ou 0) (a_ru 0) (a_no 0) (a_fo 0) (a_rd 0) (a_pa 0) sv_th th_0 ++ wRules k a_ru ru_0 ++ wCourt k a_no no_6 ++ wPast k a_pa pp_3 pa_2) ++ poolW k pp_3 pa_2.2) H locs := by rw [eno_6]; exact hW
      refine k_iload_n E hl 0 dX8_stall_63 rfl ?_
      exact hret _ (no_6, pa_2, pp_3) _ _ _ _ _ _ hW (Option.some.inj hf).symm rfl (by decide) (by decide) dX8_stall_64
    · have hf := oF hc hf
      cases hf
      exact absurd h0 (show ¬ (2 : Nat) = 0 from by decide)
def f_X8_setOrder (n : Nat) (sv_th : Value) (th_0 : OS) (no_0 : OS) (pa_0 : PS) (v1_0 : Int32) : Option (OS × PS × Int32 × Nat) :=
  if v1_0 < 0 then (
  some (no_0, pa_0, (0 : Int32), 2)) else (
  if v1_0 ≤ (2 : Int32) then (
  bnd (f_X3_keep n pa_0 no_0) (fun (pa_1 : PS) =>
  Let (no_0.1 1) (fun v2_3 : Int32 =>
  Let (sI no_0 1 v1_0) (fun no_4 : OS =>
  some (no_4, pa_1, v2_3, 0))))) else (
  some (no_0, pa_0, (0 : Int32), 2)))
set_option maxHeartbeats 4000000 in
set_option maxRecDepth 100000 in
theorem c_X8_setOrder (n : Nat) (l : Launch) (k : KT) (a_th : Nat → Nat) (a_in : Nat → Nat) (a_ou : Nat → Nat) (a_ru : Nat → Nat) (a_no : Nat → Nat) (a_fo : Nat → Nat) (a_rd : Nat → Nat) (a_pa : Nat → Nat) (pp_0 : Nat → Nat → Nat) (sv_th : Value) (th_0 : OS) (no_0 : OS) (pa_0 : PS) (v1_0 : Int32) (res : (OS × PS × Int32 × Nat)) (hf : f_X8_setOrder n sv_th th_0 no_0 pa_0 v1_0 = some res) (h0 : res.2.2.2 = 0) : CG l k yX8_setOrder cX8_setOrder 3 (some .int) 5 13 2000 222 [.ref (a_th 0), .int v1_0] ((wMCo k a_th (a_in 0) (a_ou 0) (a_ru 0) (a_no 0) (a_fo 0) (a_rd 0) (a_pa 0) sv_th th_0 ++ wCourt k a_no no_0 ++ wPast k a_pa pp_0 pa_0) ++ poolW k pp_0 pa_0.2) (Qi k (fun u : (OS) × (PS) × (Nat → Nat → Nat) => (wMCo k a_th (a_in 0) (a_ou 0) (a_ru 0) (a_no 0) (a_fo 0) (a_rd 0) (a_pa 0) sv_th th_0 ++ wCourt k a_no (u.1) ++ wPast k a_pa (u.2.2) (u.2.1)) ++ poolW k (u.2.2) (u.2.1).2) (fun (r : Int32) (u : (OS) × (PS) × (Nat → Nat → Nat)) => res = (u.1, u.2.1, r, 0))) := by
  refine CG.ofI (by decide) (Nat.le_of_ble_eq_true rfl) (fun p e s m args below meth c A Q E hnm hW hA hret ls hl => ?_)
  have hl : lv_has ls 3 [(0, .ref (a_th 0)), (1, .int v1_0)] := hl
  unfold f_X8_setOrder at hf
  refine k_iload_n E hl 1 dX8_setOrder_0 rfl ?_
  refine lv_if_lt (tgt := 9) E.hx E.hb dX8_setOrder_1 (by decide) (fun hc => ?_) (fun hc => ?_)
  · have hf := oT hc hf
    cases hf
    exact absurd h0 (show ¬ (2 : Nat) = 0 from by decide)
  · have hf := oF hc hf
    refine k_iload_n E hl 1 dX8_setOrder_4 rfl ?_
    refine lv_iconst (v := (2 : Int32)) E.hx E.hb dX8_setOrder_5 ic_2 ?_
    refine lv_icmp_le (tgt := 20) E.hx E.hb dX8_setOrder_6 (by decide) (fun hc => ?_) (fun hc => ?_)
    · have hf := oT hc hf
      refine k_aload_n E hl 0 dX8_setOrder_20 rfl ?_
      refine gf_X8_50 E hW 0 rfl rfl dX8_setOrder_21 ?_
      refine k_aload_n E hl 0 dX8_setOrder_24 rfl ?_
      refine gf_X8_31 E hW 0 rfl rfl dX8_setOrder_25 ?_
      obtain ⟨pa_1, hg, hf⟩ := ob hf
      refine k_callGv (As := [.ref (a_no 0)]) (rest := []) (ws2 := fun u => (wMCo k a_th (a_in 0) (a_ou 0) (a_ru 0) (a_no 0) (a_fo 0) (a_rd 0) (a_pa 0) sv_th th_0 ++ wCourt k a_no no_0 ++ wPast k a_pa u.2 (u.1)) ++ poolW k u.2 (u.1).2) (c_X3_keep n l k a_no a_pa pp_0 pa_0 no_0 pa_1 hg) E vl_X8_283 dX8_setOrder_28 rfl [1, 2, 3, 4, 5, 6, 7, 8, 9, 10, 11, 12, 13, 14] 4 13 hW hA hl rfl rfl rfl rfl ⟨by decide, by decide⟩ ⟨by decide, by decide⟩ (Nat.le_of_ble_eq_true rfl) rfl (fun _ => rfl) (fun _ => rfl) (fun u H locs hp hW => ?_)
      obtain ⟨u0, pp_2⟩ := u
      try dsimp only at hp
      cases hp
      have hW : WD k A s.heap ((wMCo k a_th (a_in 0) (a_ou 0) (a_ru 0) (a_no 0) (a_fo 0) (a_rd 0) (a_pa 0) sv_th th_0 ++ wCourt k a_no no_0 ++ wPast k a_pa pp_2 pa_1) ++ poolW k pp_2 pa_1.2) H locs := hW
      refine k_aload_n E hl 0 dX8_setOrder_31 rfl ?_
      refine gf_X8_31 E hW 0 rfl rfl dX8_setOrder_32 ?_
      refine gf_X8_111 E hW 1 rfl rfl dX8_setOrder_35 ?_
      obtain ⟨v2_3, ev2_3, hf⟩ := oL hf
      refine k_istore_n (lv' := [(2, .int v2_3), (0, .ref (a_th 0)), (1, .int v1_0)]) E ev2_3 hl dX8_setOrder_38 rfl (by decide) rfl (fun ls hl => ?_)
      refine k_aload_n E hl 1 dX8_setOrder_39 rfl ?_
      refine gf_X8_31 E hW 0 rfl rfl dX8_setOrder_40 ?_
      refine k_iload_n E hl 2 dX8_setOrder_43 rfl ?_
      obtain ⟨no_4, eno_4, hf⟩ := oL hf
      refine pf_X8_111 (ws2 := (wMCo k a_th (a_in 0) (a_ou 0) (a_ru 0) (a_no 0) (a_fo 0) (a_rd 0) (a_pa 0) sv_th th_0 ++ wCourt k a_no no_4 ++ wPast k a_pa pp_2 pa_1) ++ poolW k pp_2 pa_1.2) E hW 1 rfl rfl rfl (Nat.le_of_ble_eq_true rfl) dX8_setOrder_44 (by rw [eno_4]; rfl) (fun H locs hW => ?_)
      refine k_iload_n E hl 0 dX8_setOrder_47 rfl ?_
      exact hret _ (no_4, pa_1, pp_2) _ _ _ _ _ _ hW (Option.some.inj hf).symm rfl (by decide) (by decide) dX8_setOrder_48
    · have hf := oF hc hf
      cases hf
      exact absurd h0 (show ¬ (2 : Nat) = 0 from by decide)
def f_X8_undo (n : Nat) (sv_th : Value) (th_0 : OS) (no_0 : OS) (pa_0 : PS) : Option (OS × PS × Int32 × Nat) :=
  if (pa_0.1 2) = 0 then (
  some (no_0, pa_0, (0 : Int32), 3)) else (
  bnd2 (f_X3_bringBack n pa_0 no_0) (fun (no_2 : OS) (pa_1 : PS) =>
  some (no_2, pa_1, (pa_1.1 2), 0)))
set_option maxHeartbeats 4000000 in
set_option maxRecDepth 100000 in
theorem c_X8_undo (n : Nat) (l : Launch) (k : KT) (a_th : Nat → Nat) (a_in : Nat → Nat) (a_ou : Nat → Nat) (a_ru : Nat → Nat) (a_no : Nat → Nat) (a_fo : Nat → Nat) (a_rd : Nat → Nat) (a_pa : Nat → Nat) (pp_0 : Nat → Nat → Nat) (sv_th : Value) (th_0 : OS) (no_0 : OS) (pa_0 : PS) (res : (OS × PS × Int32 × Nat)) (hf : f_X8_undo n sv_th th_0 no_0 pa_0 = some res) (h0 : res.2.2.2 = 0) : CG l k yX8_undo cX8_undo 1 (some .int) 5 0 0 222 [.ref (a_th 0)] ((wMCo k a_th (a_in 0) (a_ou 0) (a_ru 0) (a_no 0) (a_fo 0) (a_rd 0) (a_pa 0) sv_th th_0 ++ wCourt k a_no no_0 ++ wPast k a_pa pp_0 pa_0) ++ poolW k pp_0 pa_0.2) (Qi k (fun u : (OS) × (PS) × (Nat → Nat → Nat) => (wMCo k a_th (a_in 0) (a_ou 0) (a_ru 0) (a_no 0) (a_fo 0) (a_rd 0) (a_pa 0) sv_th th_0 ++ wCourt k a_no (u.1) ++ wPast k a_pa (u.2.2) (u.2.1)) ++ poolW k (u.2.2) (u.2.1).2) (fun (r : Int32) (u : (OS) × (PS) × (Nat → Nat → Nat)) => res = (u.1, u.2.1, r, 0))) := by
  refine CG.ofI (by decide) (Nat.le_of_ble_eq_true rfl) (fun p e s m args below meth c A Q E hnm hW hA hret ls hl => ?_)
  have hl : lv_has ls 1 [(0, .ref (a_th 0))] := hl
  unfold f_X8_undo at hf
  refine k_aload_n E hl 0 dX8_undo_0 rfl ?_
  refine gf_X8_50 E hW 0 rfl rfl dX8_undo_1 ?_
  refine gf_X8_158 E hW 13 rfl rfl dX8_undo_4 ?_
  refine lv_if_ne (tgt := 21) E.hx E.hb dX8_undo_7 (by decide) (fun hc => ?_) (fun hc => ?_)
  · have hf := oF hc hf
    refine k_aload_n E hl 0 dX8_undo_21 rfl ?_
    refine gf_X8_50 E hW 0 rfl rfl dX8_undo_22 ?_
    refine k_aload_n E hl 0 dX8_undo_25 rfl ?_
    refine gf_X8_31 E hW 0 rfl rfl dX8_undo_26 ?_
    obtain ⟨no_2, pa_1, hg, hf⟩ := ob2 hf
    refine k_callGv (As := [.ref (a_no 0)]) (rest := []) (ws2 := fun u => (wMCo k a_th (a_in 0) (a_ou 0) (a_ru 0) (a_no 0) (a_fo 0) (a_rd 0) (a_pa 0) sv_th th_0 ++ wCourt k a_no (u.1) ++ wPast k a_pa u.2.2 (u.2.1)) ++ poolW k u.2.2 (u.2.1).2) (c_X3_bringBack n l k a_no a_pa pp_0 pa_0 no_0 (no_2, pa_1) hg) E vl_X8_335 dX8_undo_29 rfl [1, 2, 3, 4, 5, 6, 7, 8, 9, 10, 11, 12, 13, 14] 4 13 hW hA hl rfl rfl rfl rfl ⟨by decide, by decide⟩ ⟨by decide, by decide⟩ (Nat.le_of_ble_eq_true rfl) rfl (fun _ => rfl) (fun _ => rfl) (fun u H locs hp hW => ?_)
    obtain ⟨u0, u1, pp_3⟩ := u
    try dsimp only at hp
    cases hp
    have hW : WD k A s.heap ((wMCo k a_th (a_in 0) (a_ou 0) (a_ru 0) (a_no 0) (a_fo 0) (a_rd 0) (a_pa 0) sv_th th_0 ++ wCourt k a_no no_2 ++ wPast k a_pa pp_3 pa_1) ++ poolW k pp_3 pa_1.2) H locs := hW
    refine k_aload_n E hl 0 dX8_undo_32 rfl ?_
    refine gf_X8_50 E hW 0 rfl rfl dX8_undo_33 ?_
    refine gf_X8_158 E hW 13 rfl rfl dX8_undo_36 ?_
    exact hret _ (no_2, pa_1, pp_3) _ _ _ _ _ _ hW (Option.some.inj hf).symm rfl (by decide) (by decide) dX8_undo_39
  · have hf := oT hc hf
    cases hf
    exact absurd h0 (show ¬ (3 : Nat) = 0 from by decide)
