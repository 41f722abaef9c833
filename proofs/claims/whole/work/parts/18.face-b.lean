theorem tm_1023 : (Jvm.Cond.methodLink "MemoryCourt" (283 : Nat) ({ cls := "MemoryCourt$Past", name := "keep", desc := "(LMemoryCourt$Court;)V" } : Jvm.MethodName)) ∈ lw_tbl := List.mem_of_getElem? (i := 1023) (by decide +kernel)
theorem tm_1024 : (Jvm.Cond.instanceMethod ({ cls := "MemoryCourt$Past", name := "keep", desc := "(LMemoryCourt$Court;)V" } : Jvm.MethodName)) ∈ lw_tbl := List.mem_of_getElem? (i := 1024) (by decide +kernel)
theorem tm_1025 : (Jvm.Cond.selects "MemoryCourt$Past" ({ cls := "MemoryCourt$Past", name := "keep", desc := "(LMemoryCourt$Court;)V" } : Jvm.MethodName) ({ cls := "MemoryCourt$Past", name := "keep", desc := "(LMemoryCourt$Court;)V" } : Jvm.MethodName)) ∈ lw_tbl := List.mem_of_getElem? (i := 1025) (by decide +kernel)
theorem tm_1026 : (Jvm.Cond.code ({ cls := "MemoryCourt$Past", name := "keep", desc := "(LMemoryCourt$Court;)V" } : Jvm.MethodName) prog_5_method_2_code (3 : Nat) (Option.none : Option Jvm.ClassFile.FieldType)) ∈ lw_tbl := List.mem_of_getElem? (i := 1026) (by decide +kernel)
theorem tm_1099 : (Jvm.Cond.methodLink "MemoryCourt" (294 : Nat) ({ cls := "MemoryCourt$Court", name := "addClaim", desc := "(III)I" } : Jvm.MethodName)) ∈ lw_tbl := List.mem_of_getElem? (i := 1099) (by decide +kernel)
theorem tm_1109 : (Jvm.Cond.methodLink "MemoryCourt" (303 : Nat) ({ cls := "MemoryCourt$Table", name := "set", desc := "(III)V" } : Jvm.MethodName)) ∈ lw_tbl := List.mem_of_getElem? (i := 1109) (by decide +kernel)
theorem tm_1126 : (Jvm.Cond.methodLink "MemoryCourt" (315 : Nat) ({ cls := "MemoryCourt$Court", name := "isRenewable", desc := "(I)Z" } : Jvm.MethodName)) ∈ lw_tbl := List.mem_of_getElem? (i := 1126) (by decide +kernel)
theorem tm_1127 : (Jvm.Cond.instanceMethod ({ cls := "MemoryCourt$Court", name := "isRenewable", desc := "(I)Z" } : Jvm.MethodName)) ∈ lw_tbl := List.mem_of_getElem? (i := 1127) (by decide +kernel)
theorem tm_1128 : (Jvm.Cond.selects "MemoryCourt$Court" ({ cls := "MemoryCourt$Court", name := "isRenewable", desc := "(I)Z" } : Jvm.MethodName) ({ cls := "MemoryCourt$Court", name := "isRenewable", desc := "(I)Z" } : Jvm.MethodName)) ∈ lw_tbl := List.mem_of_getElem? (i := 1128) (by decide +kernel)
theorem tm_1129 : (Jvm.Cond.code ({ cls := "MemoryCourt$Court", name := "isRenewable", desc := "(I)Z" } : Jvm.MethodName) prog_4_method_12_code (3 : Nat) (Option.some Jvm.ClassFile.FieldType.boolean)) ∈ lw_tbl := List.mem_of_getElem? (i := 1129) (by decide +kernel)
theorem tm_1132 : (Jvm.Cond.methodLink "MemoryCourt" (320 : Nat) ({ cls := "MemoryCourt$Table", name := "add", desc := "(III)V" } : Jvm.MethodName)) ∈ lw_tbl := List.mem_of_getElem? (i := 1132) (by decide +kernel)
theorem tm_1152 : (Jvm.Cond.methodLink "MemoryCourt" (328 : Nat) ({ cls := "MemoryCourt$Court", name := "lessen", desc := "(II)I" } : Jvm.MethodName)) ∈ lw_tbl := List.mem_of_getElem? (i := 1152) (by decide +kernel)
theorem tm_1153 : (Jvm.Cond.instanceMethod ({ cls := "MemoryCourt$Court", name := "lessen", desc := "(II)I" } : Jvm.MethodName)) ∈ lw_tbl := List.mem_of_getElem? (i := 1153) (by decide +kernel)
theorem tm_1154 : (Jvm.Cond.selects "MemoryCourt$Court" ({ cls := "MemoryCourt$Court", name := "lessen", desc := "(II)I" } : Jvm.MethodName) ({ cls := "MemoryCourt$Court", name := "lessen", desc := "(II)I" } : Jvm.MethodName)) ∈ lw_tbl := List.mem_of_getElem? (i := 1154) (by decide +kernel)
theorem tm_1155 : (Jvm.Cond.code ({ cls := "MemoryCourt$Court", name := "lessen", desc := "(II)I" } : Jvm.MethodName) prog_4_method_36_code (8 : Nat) (Option.some Jvm.ClassFile.FieldType.int)) ∈ lw_tbl := List.mem_of_getElem? (i := 1155) (by decide +kernel)
theorem tm_1176 : (Jvm.Cond.methodLink "MemoryCourt" (335 : Nat) ({ cls := "MemoryCourt$Past", name := "bringBack", desc := "(LMemoryCourt$Court;)V" } : Jvm.MethodName)) ∈ lw_tbl := List.mem_of_getElem? (i := 1176) (by decide +kernel)
theorem tm_1177 : (Jvm.Cond.instanceMethod ({ cls := "MemoryCourt$Past", name := "bringBack", desc := "(LMemoryCourt$Court;)V" } : Jvm.MethodName)) ∈ lw_tbl := List.mem_of_getElem? (i := 1177) (by decide +kernel)
theorem tm_1178 : (Jvm.Cond.selects "MemoryCourt$Past" ({ cls := "MemoryCourt$Past", name := "bringBack", desc := "(LMemoryCourt$Court;)V" } : Jvm.MethodName) ({ cls := "MemoryCourt$Past", name := "bringBack", desc := "(LMemoryCourt$Court;)V" } : Jvm.MethodName)) ∈ lw_tbl := List.mem_of_getElem? (i := 1178) (by decide +kernel)
theorem tm_1179 : (Jvm.Cond.code ({ cls := "MemoryCourt$Past", name := "bringBack", desc := "(LMemoryCourt$Court;)V" } : Jvm.MethodName) prog_5_method_3_code (3 : Nat) (Option.none : Option Jvm.ClassFile.FieldType)) ∈ lw_tbl := List.mem_of_getElem? (i := 1179) (by decide +kernel)
theorem vl_X8_283 : VL RX8 283 RX3 yX3_keep cX3_keep 3 none 1 := ⟨⟨tm_1023, tm_1024, tm_1025, tm_117, tm_1026⟩, by decide +kernel⟩
theorem vl_X8_294 : VL RX8 294 RX2 yX2_addClaim cX2_addClaim 5 (some .int) 3 := ⟨⟨tm_1099, tm_587, tm_588, tm_113, tm_589⟩, by decide +kernel⟩
theorem vl_X8_303 : VL RX8 303 RX6 yX6_set cX6_set 5 none 3 := ⟨⟨tm_1109, tm_566, tm_567, tm_112, tm_568⟩, by decide +kernel⟩
theorem vl_X8_315 : VL RX8 315 RX2 yX2_isRenewable cX2_isRenewable 3 (some .boolean) 1 := ⟨⟨tm_1126, tm_1127, tm_1128, tm_113, tm_1129⟩, by decide +kernel⟩
theorem vl_X8_320 : VL RX8 320 RX6 yX6_add cX6_add 5 none 3 := ⟨⟨tm_1132, tm_1038, tm_1039, tm_112, tm_1040⟩, by decide +kernel⟩
theorem vl_X8_328 : VL RX8 328 RX2 yX2_lessen cX2_lessen 8 (some .int) 2 := ⟨⟨tm_1152, tm_1153, tm_1154, tm_113, tm_1155⟩, by decide +kernel⟩
theorem vl_X8_335 : VL RX8 335 RX3 yX3_bringBack cX3_bringBack 3 none 1 := ⟨⟨tm_1176, tm_1177, tm_1178, tm_117, tm_1179⟩, by decide +kernel⟩
theorem dX8_run_0 : decode cX8_run 0 = .ok (.aload_n 0, 1) := by decide +kernel
theorem dX8_run_1 : decode cX8_run 1 = .ok (.iload_n 1, 1) := by decide +kernel
theorem dX8_run_2 : decode cX8_run 2 = .ok (.invokevirtual 275, 3) := by decide +kernel
theorem dX8_run_5 : decode cX8_run 5 = .ok (.aload_n 0, 1) := by decide +kernel
theorem dX8_run_6 : decode cX8_run 6 = .ok (.getfield 31, 3) := by decide +kernel
theorem dX8_run_9 : decode cX8_run 9 = .ok (.getfield 108, 3) := by decide +kernel
theorem dX8_run_12 : decode cX8_run 12 = .ok (.iload_n 1, 1) := by decide +kernel
theorem dX8_run_13 : decode cX8_run 13 = .ok (.iadd, 1) := by decide +kernel
theorem dX8_run_14 : decode cX8_run 14 = .ok (.sipush 2000, 3) := by decide +kernel
theorem dX8_run_17 : decode cX8_run 17 = .ok (.if_icmp .le 14, 3) := by decide +kernel
theorem dX8_run_20 : decode cX8_run 20 = .ok (.new 278, 3) := by decide +kernel
theorem dX8_run_23 : decode cX8_run 23 = .ok (.dup, 1) := by decide +kernel
theorem dX8_run_24 : decode cX8_run 24 = .ok (.ldc_w 280, 3) := by decide +kernel
theorem dX8_run_27 : decode cX8_run 27 = .ok (.invokespecial 282, 3) := by decide +kernel
theorem dX8_run_30 : decode cX8_run 30 = .ok (.athrow, 1) := by decide +kernel
theorem dX8_run_31 : decode cX8_run 31 = .ok (.aload_n 0, 1) := by decide +kernel
theorem dX8_run_32 : decode cX8_run 32 = .ok (.getfield 50, 3) := by decide +kernel
theorem dX8_run_35 : decode cX8_run 35 = .ok (.aload_n 0, 1) := by decide +kernel
theorem dX8_run_36 : decode cX8_run 36 = .ok (.getfield 31, 3) := by decide +kernel
theorem dX8_run_39 : decode cX8_run 39 = .ok (.invokevirtual 283, 3) := by decide +kernel
theorem dX8_run_42 : decode cX8_run 42 = .ok (.iconst 0, 1) := by decide +kernel
theorem dX8_run_43 : decode cX8_run 43 = .ok (.istore_n 2, 1) := by decide +kernel
theorem dX8_run_44 : decode cX8_run 44 = .ok (.iconst 0, 1) := by decide +kernel
theorem dX8_run_45 : decode cX8_run 45 = .ok (.istore_n 3, 1) := by decide +kernel
theorem dX8_run_46 : decode cX8_run 46 = .ok (.iload_n 3, 1) := by decide +kernel
theorem dX8_run_47 : decode cX8_run 47 = .ok (.iload_n 1, 1) := by decide +kernel
theorem dX8_run_48 : decode cX8_run 48 = .ok (.if_icmp .ge 23, 3) := by decide +kernel
theorem dX8_run_51 : decode cX8_run 51 = .ok (.iload_n 2, 1) := by decide +kernel
theorem dX8_run_52 : decode cX8_run 52 = .ok (.aload_n 0, 1) := by decide +kernel
theorem dX8_run_53 : decode cX8_run 53 = .ok (.getfield 31, 3) := by decide +kernel
theorem dX8_run_56 : decode cX8_run 56 = .ok (.aload_n 0, 1) := by decide +kernel
theorem dX8_run_57 : decode cX8_run 57 = .ok (.getfield 24, 3) := by decide +kernel
theorem dX8_run_60 : decode cX8_run 60 = .ok (.invokevirtual 286, 3) := by decide +kernel
theorem dX8_run_63 : decode cX8_run 63 = .ok (.iadd, 1) := by decide +kernel
theorem dX8_run_64 : decode cX8_run 64 = .ok (.istore_n 2, 1) := by decide +kernel
theorem dX8_run_65 : decode cX8_run 65 = .ok (.iinc 3 1, 3) := by decide +kernel
theorem dX8_run_68 : decode cX8_run 68 = .ok (.goto (-22), 3) := by decide +kernel
theorem dX8_run_71 : decode cX8_run 71 = .ok (.iload_n 2, 1) := by decide +kernel
theorem dX8_run_72 : decode cX8_run 72 = .ok (.ireturn, 1) := by decide +kernel
theorem dX8_ask_0 : decode cX8_ask 0 = .ok (.aload_n 0, 1) := by decide +kernel
theorem dX8_ask_1 : decode cX8_ask 1 = .ok (.iload_n 1, 1) := by decide +kernel
theorem dX8_ask_2 : decode cX8_ask 2 = .ok (.invokevirtual 165, 3) := by decide +kernel
theorem dX8_ask_5 : decode cX8_ask 5 = .ok (.iload_n 2, 1) := by decide +kernel
theorem dX8_ask_6 : decode cX8_ask 6 = .ok (.iconst 1, 1) := by decide +kernel
theorem dX8_ask_7 : decode cX8_ask 7 = .ok (.if_icmp .lt 25, 3) := by decide +kernel
theorem dX8_ask_10 : decode cX8_ask 10 = .ok (.iload_n 2, 1) := by decide +kernel
theorem dX8_ask_11 : decode cX8_ask 11 = .ok (.aload_n 0, 1) := by decide +kernel
theorem dX8_ask_12 : decode cX8_ask 12 = .ok (.getfield 24, 3) := by decide +kernel
theorem dX8_ask_15 : decode cX8_ask 15 = .ok (.getfield 105, 3) := by decide +kernel
theorem dX8_ask_18 : decode cX8_ask 18 = .ok (.if_icmp .gt 14, 3) := by decide +kernel
theorem dX8_ask_21 : decode cX8_ask 21 = .ok (.iload_n 3, 1) := by decide +kernel
theorem dX8_ask_22 : decode cX8_ask 22 = .ok (.iconst 1, 1) := by decide +kernel
theorem dX8_ask_23 : decode cX8_ask 23 = .ok (.if_icmp .lt 9, 3) := by decide +kernel
theorem dX8_ask_26 : decode cX8_ask 26 = .ok (.iload_n 3, 1) := by decide +kernel
theorem dX8_ask_27 : decode cX8_ask 27 = .ok (.bipush 99, 2) := by decide +kernel
theorem dX8_ask_29 : decode cX8_ask 29 = .ok (.if_icmp .le 14, 3) := by decide +kernel
theorem dX8_ask_32 : decode cX8_ask 32 = .ok (.new 234, 3) := by decide +kernel
theorem dX8_ask_35 : decode cX8_ask 35 = .ok (.dup, 1) := by decide +kernel
theorem dX8_ask_36 : decode cX8_ask 36 = .ok (.ldc_w 290, 3) := by decide +kernel
theorem dX8_ask_39 : decode cX8_ask 39 = .ok (.invokespecial 238, 3) := by decide +kernel
theorem dX8_ask_42 : decode cX8_ask 42 = .ok (.athrow, 1) := by decide +kernel
theorem dX8_ask_43 : decode cX8_ask 43 = .ok (.aload_n 0, 1) := by decide +kernel
theorem dX8_ask_44 : decode cX8_ask 44 = .ok (.getfield 31, 3) := by decide +kernel
theorem dX8_ask_47 : decode cX8_ask 47 = .ok (.getfield 142, 3) := by decide +kernel
theorem dX8_ask_50 : decode cX8_ask 50 = .ok (.bipush 60, 2) := by decide +kernel
theorem dX8_ask_52 : decode cX8_ask 52 = .ok (.if_icmp .lt 14, 3) := by decide +kernel
theorem dX8_ask_55 : decode cX8_ask 55 = .ok (.new 278, 3) := by decide +kernel
theorem dX8_ask_58 : decode cX8_ask 58 = .ok (.dup, 1) := by decide +kernel
theorem dX8_ask_59 : decode cX8_ask 59 = .ok (.ldc_w 292, 3) := by decide +kernel
theorem dX8_ask_62 : decode cX8_ask 62 = .ok (.invokespecial 282, 3) := by decide +kernel
theorem dX8_ask_65 : decode cX8_ask 65 = .ok (.athrow, 1) := by decide +kernel
theorem dX8_ask_66 : decode cX8_ask 66 = .ok (.aload_n 0, 1) := by decide +kernel
theorem dX8_ask_67 : decode cX8_ask 67 = .ok (.getfield 50, 3) := by decide +kernel
theorem dX8_ask_70 : decode cX8_ask 70 = .ok (.aload_n 0, 1) := by decide +kernel
theorem dX8_ask_71 : decode cX8_ask 71 = .ok (.getfield 31, 3) := by decide +kernel
theorem dX8_ask_74 : decode cX8_ask 74 = .ok (.invokevirtual 283, 3) := by decide +kernel
theorem dX8_ask_77 : decode cX8_ask 77 = .ok (.aload_n 0, 1) := by decide +kernel
theorem dX8_ask_78 : decode cX8_ask 78 = .ok (.getfield 31, 3) := by decide +kernel
theorem dX8_ask_81 : decode cX8_ask 81 = .ok (.iload_n 1, 1) := by decide +kernel
theorem dX8_ask_82 : decode cX8_ask 82 = .ok (.iload_n 2, 1) := by decide +kernel
theorem dX8_ask_83 : decode cX8_ask 83 = .ok (.iload_n 3, 1) := by decide +kernel
theorem dX8_ask_84 : decode cX8_ask 84 = .ok (.invokevirtual 294, 3) := by decide +kernel
theorem dX8_ask_87 : decode cX8_ask 87 = .ok (.ireturn, 1) := by decide +kernel
theorem dX8_withdraw_0 : decode cX8_withdraw 0 = .ok (.aload_n 0, 1) := by decide +kernel
theorem dX8_withdraw_1 : decode cX8_withdraw 1 = .ok (.iload_n 1, 1) := by decide +kernel
theorem dX8_withdraw_2 : decode cX8_withdraw 2 = .ok (.invokevirtual 217, 3) := by decide +kernel
theorem dX8_withdraw_5 : decode cX8_withdraw 5 = .ok (.aload_n 0, 1) := by decide +kernel
theorem dX8_withdraw_6 : decode cX8_withdraw 6 = .ok (.getfield 31, 3) := by decide +kernel
theorem dX8_withdraw_9 : decode cX8_withdraw 9 = .ok (.iload_n 1, 1) := by decide +kernel
theorem dX8_withdraw_10 : decode cX8_withdraw 10 = .ok (.invokevirtual 298, 3) := by decide +kernel
theorem dX8_withdraw_13 : decode cX8_withdraw 13 = .ok (.ifCond .ne 14, 3) := by decide +kernel
theorem dX8_withdraw_16 : decode cX8_withdraw 16 = .ok (.new 278, 3) := by decide +kernel
theorem dX8_withdraw_19 : decode cX8_withdraw 19 = .ok (.dup, 1) := by decide +kernel
theorem dX8_withdraw_20 : decode cX8_withdraw 20 = .ok (.ldc_w 301, 3) := by decide +kernel
theorem dX8_withdraw_23 : decode cX8_withdraw 23 = .ok (.invokespecial 282, 3) := by decide +kernel
theorem dX8_withdraw_26 : decode cX8_withdraw 26 = .ok (.athrow, 1) := by decide +kernel
theorem dX8_withdraw_27 : decode cX8_withdraw 27 = .ok (.aload_n 0, 1) := by decide +kernel
theorem dX8_withdraw_28 : decode cX8_withdraw 28 = .ok (.getfield 50, 3) := by decide +kernel
theorem dX8_withdraw_31 : decode cX8_withdraw 31 = .ok (.aload_n 0, 1) := by decide +kernel
theorem dX8_withdraw_32 : decode cX8_withdraw 32 = .ok (.getfield 31, 3) := by decide +kernel
theorem dX8_withdraw_35 : decode cX8_withdraw 35 = .ok (.invokevirtual 283, 3) := by decide +kernel
theorem dX8_withdraw_38 : decode cX8_withdraw 38 = .ok (.aload_n 0, 1) := by decide +kernel
theorem dX8_withdraw_39 : decode cX8_withdraw 39 = .ok (.getfield 31, 3) := by decide +kernel
theorem dX8_withdraw_42 : decode cX8_withdraw 42 = .ok (.getfield 222, 3) := by decide +kernel
theorem dX8_withdraw_45 : decode cX8_withdraw 45 = .ok (.iload_n 1, 1) := by decide +kernel
theorem dX8_withdraw_46 : decode cX8_withdraw 46 = .ok (.iconst 3, 1) := by decide +kernel
theorem dX8_withdraw_47 : decode cX8_withdraw 47 = .ok (.iconst 3, 1) := by decide +kernel
theorem dX8_withdraw_48 : decode cX8_withdraw 48 = .ok (.invokevirtual 303, 3) := by decide +kernel
theorem dX8_withdraw_51 : decode cX8_withdraw 51 = .ok (.aload_n 0, 1) := by decide +kernel
theorem dX8_withdraw_52 : decode cX8_withdraw 52 = .ok (.getfield 31, 3) := by decide +kernel
theorem dX8_withdraw_55 : decode cX8_withdraw 55 = .ok (.getfield 222, 3) := by decide +kernel
theorem dX8_withdraw_58 : decode cX8_withdraw 58 = .ok (.iload_n 1, 1) := by decide +kernel
theorem dX8_withdraw_59 : decode cX8_withdraw 59 = .ok (.iconst 4, 1) := by decide +kernel
theorem dX8_withdraw_60 : decode cX8_withdraw 60 = .ok (.invokevirtual 171, 3) := by decide +kernel
theorem dX8_withdraw_63 : decode cX8_withdraw 63 = .ok (.ireturn, 1) := by decide +kernel
theorem dX8_giveBack_0 : decode cX8_giveBack 0 = .ok (.aload_n 0, 1) := by decide +kernel
theorem dX8_giveBack_1 : decode cX8_giveBack 1 = .ok (.iload_n 1, 1) := by decide +kernel
theorem dX8_giveBack_2 : decode cX8_giveBack 2 = .ok (.invokevirtual 186, 3) := by decide +kernel
theorem dX8_giveBack_5 : decode cX8_giveBack 5 = .ok (.iload_n 2, 1) := by decide +kernel
theorem dX8_giveBack_6 : decode cX8_giveBack 6 = .ok (.iconst 1, 1) := by decide +kernel
theorem dX8_giveBack_7 : decode cX8_giveBack 7 = .ok (.if_icmp .lt 19, 3) := by decide +kernel
theorem dX8_giveBack_10 : decode cX8_giveBack 10 = .ok (.iload_n 2, 1) := by decide +kernel
theorem dX8_giveBack_11 : decode cX8_giveBack 11 = .ok (.aload_n 0, 1) := by decide +kernel
theorem dX8_giveBack_12 : decode cX8_giveBack 12 = .ok (.getfield 31, 3) := by decide +kernel
theorem dX8_giveBack_15 : decode cX8_giveBack 15 = .ok (.getfield 195, 3) := by decide +kernel
theorem dX8_giveBack_18 : decode cX8_giveBack 18 = .ok (.iload_n 1, 1) := by decide +kernel
theorem dX8_giveBack_19 : decode cX8_giveBack 19 = .ok (.iconst 1, 1) := by decide +kernel
theorem dX8_giveBack_20 : decode cX8_giveBack 20 = .ok (.invokevirtual 171, 3) := by decide +kernel
theorem dX8_giveBack_23 : decode cX8_giveBack 23 = .ok (.if_icmp .le 14, 3) := by decide +kernel
theorem dX8_giveBack_26 : decode cX8_giveBack 26 = .ok (.new 234, 3) := by decide +kernel
theorem dX8_giveBack_29 : decode cX8_giveBack 29 = .ok (.dup, 1) := by decide +kernel
theorem dX8_giveBack_30 : decode cX8_giveBack 30 = .ok (.ldc_w 307, 3) := by decide +kernel
theorem dX8_giveBack_33 : decode cX8_giveBack 33 = .ok (.invokespecial 238, 3) := by decide +kernel
theorem dX8_giveBack_36 : decode cX8_giveBack 36 = .ok (.athrow, 1) := by decide +kernel
theorem dX8_giveBack_37 : decode cX8_giveBack 37 = .ok (.aload_n 0, 1) := by decide +kernel
theorem dX8_giveBack_38 : decode cX8_giveBack 38 = .ok (.getfield 50, 3) := by decide +kernel
theorem dX8_giveBack_41 : decode cX8_giveBack 41 = .ok (.aload_n 0, 1) := by decide +kernel
theorem dX8_giveBack_42 : decode cX8_giveBack 42 = .ok (.getfield 31, 3) := by decide +kernel
theorem dX8_giveBack_45 : decode cX8_giveBack 45 = .ok (.invokevirtual 283, 3) := by decide +kernel
theorem dX8_giveBack_48 : decode cX8_giveBack 48 = .ok (.aload_n 0, 1) := by decide +kernel
theorem dX8_giveBack_49 : decode cX8_giveBack 49 = .ok (.getfield 31, 3) := by decide +kernel
theorem dX8_giveBack_52 : decode cX8_giveBack 52 = .ok (.iload_n 1, 1) := by decide +kernel
theorem dX8_giveBack_53 : decode cX8_giveBack 53 = .ok (.iload_n 2, 1) := by decide +kernel
theorem dX8_giveBack_54 : decode cX8_giveBack 54 = .ok (.invokevirtual 309, 3) := by decide +kernel
theorem dX8_giveBack_57 : decode cX8_giveBack 57 = .ok (.aload_n 0, 1) := by decide +kernel
theorem dX8_giveBack_58 : decode cX8_giveBack 58 = .ok (.getfield 31, 3) := by decide +kernel
theorem dX8_giveBack_61 : decode cX8_giveBack 61 = .ok (.getfield 195, 3) := by decide +kernel
theorem dX8_giveBack_64 : decode cX8_giveBack 64 = .ok (.iload_n 1, 1) := by decide +kernel
theorem dX8_giveBack_65 : decode cX8_giveBack 65 = .ok (.iconst 1, 1) := by decide +kernel
theorem dX8_giveBack_66 : decode cX8_giveBack 66 = .ok (.invokevirtual 171, 3) := by decide +kernel
theorem dX8_giveBack_69 : decode cX8_giveBack 69 = .ok (.ireturn, 1) := by decide +kernel
theorem dX8_renew_0 : decode cX8_renew 0 = .ok (.aload_n 0, 1) := by decide +kernel
theorem dX8_renew_1 : decode cX8_renew 1 = .ok (.iload_n 1, 1) := by decide +kernel
theorem dX8_renew_2 : decode cX8_renew 2 = .ok (.invokevirtual 186, 3) := by decide +kernel
theorem dX8_renew_5 : decode cX8_renew 5 = .ok (.iload_n 2, 1) := by decide +kernel
theorem dX8_renew_6 : decode cX8_renew 6 = .ok (.iconst 1, 1) := by decide +kernel
theorem dX8_renew_7 : decode cX8_renew 7 = .ok (.if_icmp .lt 9, 3) := by decide +kernel
theorem dX8_renew_10 : decode cX8_renew 10 = .ok (.iload_n 2, 1) := by decide +kernel
theorem dX8_renew_11 : decode cX8_renew 11 = .ok (.bipush 99, 2) := by decide +kernel
theorem dX8_renew_13 : decode cX8_renew 13 = .ok (.if_icmp .le 14, 3) := by decide +kernel
theorem dX8_renew_16 : decode cX8_renew 16 = .ok (.new 234, 3) := by decide +kernel
theorem dX8_renew_19 : decode cX8_renew 19 = .ok (.dup, 1) := by decide +kernel
theorem dX8_renew_20 : decode cX8_renew 20 = .ok (.ldc_w 313, 3) := by decide +kernel
theorem dX8_renew_23 : decode cX8_renew 23 = .ok (.invokespecial 238, 3) := by decide +kernel
theorem dX8_renew_26 : decode cX8_renew 26 = .ok (.athrow, 1) := by decide +kernel
theorem dX8_renew_27 : decode cX8_renew 27 = .ok (.aload_n 0, 1) := by decide +kernel
theorem dX8_renew_28 : decode cX8_renew 28 = .ok (.getfield 31, 3) := by decide +kernel
theorem dX8_renew_31 : decode cX8_renew 31 = .ok (.iload_n 1, 1) := by decide +kernel
theorem dX8_renew_32 : decode cX8_renew 32 = .ok (.invokevirtual 315, 3) := by decide +kernel
theorem dX8_renew_35 : decode cX8_renew 35 = .ok (.ifCond .ne 14, 3) := by decide +kernel
theorem dX8_renew_38 : decode cX8_renew 38 = .ok (.new 278, 3) := by decide +kernel
theorem dX8_renew_41 : decode cX8_renew 41 = .ok (.dup, 1) := by decide +kernel
theorem dX8_renew_42 : decode cX8_renew 42 = .ok (.ldc_w 318, 3) := by decide +kernel
theorem dX8_renew_45 : decode cX8_renew 45 = .ok (.invokespecial 282, 3) := by decide +kernel
theorem dX8_renew_48 : decode cX8_renew 48 = .ok (.athrow, 1) := by decide +kernel
theorem dX8_renew_49 : decode cX8_renew 49 = .ok (.aload_n 0, 1) := by decide +kernel
theorem dX8_renew_50 : decode cX8_renew 50 = .ok (.getfield 50, 3) := by decide +kernel
theorem dX8_renew_53 : decode cX8_renew 53 = .ok (.aload_n 0, 1) := by decide +kernel
theorem dX8_renew_54 : decode cX8_renew 54 = .ok (.getfield 31, 3) := by decide +kernel
theorem dX8_renew_57 : decode cX8_renew 57 = .ok (.invokevirtual 283, 3) := by decide +kernel
theorem dX8_renew_60 : decode cX8_renew 60 = .ok (.aload_n 0, 1) := by decide +kernel
theorem dX8_renew_61 : decode cX8_renew 61 = .ok (.getfield 31, 3) := by decide +kernel
theorem dX8_renew_64 : decode cX8_renew 64 = .ok (.getfield 195, 3) := by decide +kernel
theorem dX8_renew_67 : decode cX8_renew 67 = .ok (.iload_n 1, 1) := by decide +kernel
theorem dX8_renew_68 : decode cX8_renew 68 = .ok (.iconst 2, 1) := by decide +kernel
theorem dX8_renew_69 : decode cX8_renew 69 = .ok (.iload_n 2, 1) := by decide +kernel
theorem dX8_renew_70 : decode cX8_renew 70 = .ok (.invokevirtual 320, 3) := by decide +kernel
theorem dX8_renew_73 : decode cX8_renew 73 = .ok (.aload_n 0, 1) := by decide +kernel
theorem dX8_renew_74 : decode cX8_renew 74 = .ok (.getfield 31, 3) := by decide +kernel
theorem dX8_renew_77 : decode cX8_renew 77 = .ok (.getfield 195, 3) := by decide +kernel
theorem dX8_renew_80 : decode cX8_renew 80 = .ok (.iload_n 1, 1) := by decide +kernel
theorem dX8_renew_81 : decode cX8_renew 81 = .ok (.iconst 2, 1) := by decide +kernel
theorem dX8_renew_82 : decode cX8_renew 82 = .ok (.invokevirtual 171, 3) := by decide +kernel
theorem dX8_renew_85 : decode cX8_renew 85 = .ok (.ireturn, 1) := by decide +kernel
theorem dX8_stall_0 : decode cX8_stall 0 = .ok (.aload_n 0, 1) := by decide +kernel
theorem dX8_stall_1 : decode cX8_stall 1 = .ok (.iload_n 1, 1) := by decide +kernel
theorem dX8_stall_2 : decode cX8_stall 2 = .ok (.invokevirtual 165, 3) := by decide +kernel
theorem dX8_stall_5 : decode cX8_stall 5 = .ok (.iload_n 2, 1) := by decide +kernel
theorem dX8_stall_6 : decode cX8_stall 6 = .ok (.ifCond .lt 9, 3) := by decide +kernel
theorem dX8_stall_9 : decode cX8_stall 9 = .ok (.iload_n 2, 1) := by decide +kernel
theorem dX8_stall_10 : decode cX8_stall 10 = .ok (.bipush 99, 2) := by decide +kernel
theorem dX8_stall_12 : decode cX8_stall 12 = .ok (.if_icmp .le 14, 3) := by decide +kernel
theorem dX8_stall_15 : decode cX8_stall 15 = .ok (.new 234, 3) := by decide +kernel
theorem dX8_stall_18 : decode cX8_stall 18 = .ok (.dup, 1) := by decide +kernel
theorem dX8_stall_19 : decode cX8_stall 19 = .ok (.ldc_w 313, 3) := by decide +kernel
theorem dX8_stall_22 : decode cX8_stall 22 = .ok (.invokespecial 238, 3) := by decide +kernel
theorem dX8_stall_25 : decode cX8_stall 25 = .ok (.athrow, 1) := by decide +kernel
theorem dX8_stall_26 : decode cX8_stall 26 = .ok (.aload_n 0, 1) := by decide +kernel
theorem dX8_stall_27 : decode cX8_stall 27 = .ok (.getfield 50, 3) := by decide +kernel
theorem dX8_stall_30 : decode cX8_stall 30 = .ok (.aload_n 0, 1) := by decide +kernel
theorem dX8_stall_31 : decode cX8_stall 31 = .ok (.getfield 31, 3) := by decide +kernel
theorem dX8_stall_34 : decode cX8_stall 34 = .ok (.invokevirtual 283, 3) := by decide +kernel
theorem dX8_stall_37 : decode cX8_stall 37 = .ok (.aload_n 0, 1) := by decide +kernel
theorem dX8_stall_38 : decode cX8_stall 38 = .ok (.getfield 31, 3) := by decide +kernel
theorem dX8_stall_41 : decode cX8_stall 41 = .ok (.getfield 168, 3) := by decide +kernel
theorem dX8_stall_44 : decode cX8_stall 44 = .ok (.iload_n 1, 1) := by decide +kernel
theorem dX8_stall_45 : decode cX8_stall 45 = .ok (.iconst 2, 1) := by decide +kernel
theorem dX8_stall_46 : decode cX8_stall 46 = .ok (.invokevirtual 171, 3) := by decide +kernel
theorem dX8_stall_49 : decode cX8_stall 49 = .ok (.istore_n 3, 1) := by decide +kernel
theorem dX8_stall_50 : decode cX8_stall 50 = .ok (.aload_n 0, 1) := by decide +kernel
theorem dX8_stall_51 : decode cX8_stall 51 = .ok (.getfield 31, 3) := by decide +kernel
theorem dX8_stall_54 : decode cX8_stall 54 = .ok (.getfield 168, 3) := by decide +kernel
theorem dX8_stall_57 : decode cX8_stall 57 = .ok (.iload_n 1, 1) := by decide +kernel
theorem dX8_stall_58 : decode cX8_stall 58 = .ok (.iconst 2, 1) := by decide +kernel
theorem dX8_stall_59 : decode cX8_stall 59 = .ok (.iload_n 2, 1) := by decide +kernel
theorem dX8_stall_60 : decode cX8_stall 60 = .ok (.invokevirtual 303, 3) := by decide +kernel
theorem dX8_stall_63 : decode cX8_stall 63 = .ok (.iload_n 3, 1) := by decide +kernel
theorem dX8_stall_64 : decode cX8_stall 64 = .ok (.ireturn, 1) := by decide +kernel
theorem dX8_appeal_0 : decode cX8_appeal 0 = .ok (.aload_n 0, 1) := by decide +kernel
theorem dX8_appeal_1 : decode cX8_appeal 1 = .ok (.iload_n 1, 1) := by decide +kernel
theorem dX8_appeal_2 : decode cX8_appeal 2 = .ok (.invokevirtual 239, 3) := by decide +kernel
theorem dX8_appeal_5 : decode cX8_appeal 5 = .ok (.aload_n 0, 1) := by decide +kernel
theorem dX8_appeal_6 : decode cX8_appeal 6 = .ok (.getfield 31, 3) := by decide +kernel
theorem dX8_appeal_9 : decode cX8_appeal 9 = .ok (.iload_n 1, 1) := by decide +kernel
theorem dX8_appeal_10 : decode cX8_appeal 10 = .ok (.aload_n 0, 1) := by decide +kernel
theorem dX8_appeal_11 : decode cX8_appeal 11 = .ok (.getfield 24, 3) := by decide +kernel
theorem dX8_appeal_14 : decode cX8_appeal 14 = .ok (.getfield 126, 3) := by decide +kernel
theorem dX8_appeal_17 : decode cX8_appeal 17 = .ok (.invokevirtual 323, 3) := by decide +kernel
theorem dX8_appeal_20 : decode cX8_appeal 20 = .ok (.ifCond .ne 14, 3) := by decide +kernel
theorem dX8_appeal_23 : decode cX8_appeal 23 = .ok (.new 278, 3) := by decide +kernel
theorem dX8_appeal_26 : decode cX8_appeal 26 = .ok (.dup, 1) := by decide +kernel
theorem dX8_appeal_27 : decode cX8_appeal 27 = .ok (.ldc_w 326, 3) := by decide +kernel
theorem dX8_appeal_30 : decode cX8_appeal 30 = .ok (.invokespecial 282, 3) := by decide +kernel
theorem dX8_appeal_33 : decode cX8_appeal 33 = .ok (.athrow, 1) := by decide +kernel
theorem dX8_appeal_34 : decode cX8_appeal 34 = .ok (.aload_n 0, 1) := by decide +kernel
theorem dX8_appeal_35 : decode cX8_appeal 35 = .ok (.getfield 50, 3) := by decide +kernel
theorem dX8_appeal_38 : decode cX8_appeal 38 = .ok (.aload_n 0, 1) := by decide +kernel
theorem dX8_appeal_39 : decode cX8_appeal 39 = .ok (.getfield 31, 3) := by decide +kernel
theorem dX8_appeal_42 : decode cX8_appeal 42 = .ok (.invokevirtual 283, 3) := by decide +kernel
theorem dX8_appeal_45 : decode cX8_appeal 45 = .ok (.aload_n 0, 1) := by decide +kernel
theorem dX8_appeal_46 : decode cX8_appeal 46 = .ok (.getfield 31, 3) := by decide +kernel
theorem dX8_appeal_49 : decode cX8_appeal 49 = .ok (.iload_n 1, 1) := by decide +kernel
theorem dX8_appeal_50 : decode cX8_appeal 50 = .ok (.aload_n 0, 1) := by decide +kernel
theorem dX8_appeal_51 : decode cX8_appeal 51 = .ok (.getfield 31, 3) := by decide +kernel
theorem dX8_appeal_54 : decode cX8_appeal 54 = .ok (.iload_n 1, 1) := by decide +kernel
theorem dX8_appeal_55 : decode cX8_appeal 55 = .ok (.invokevirtual 245, 3) := by decide +kernel
theorem dX8_appeal_58 : decode cX8_appeal 58 = .ok (.invokevirtual 328, 3) := by decide +kernel
theorem dX8_appeal_61 : decode cX8_appeal 61 = .ok (.ireturn, 1) := by decide +kernel
theorem dX8_setOrder_0 : decode cX8_setOrder 0 = .ok (.iload_n 1, 1) := by decide +kernel
theorem dX8_setOrder_1 : decode cX8_setOrder 1 = .ok (.ifCond .lt 8, 3) := by decide +kernel
theorem dX8_setOrder_4 : decode cX8_setOrder 4 = .ok (.iload_n 1, 1) := by decide +kernel
theorem dX8_setOrder_5 : decode cX8_setOrder 5 = .ok (.iconst 2, 1) := by decide +kernel
theorem dX8_setOrder_6 : decode cX8_setOrder 6 = .ok (.if_icmp .le 14, 3) := by decide +kernel
theorem dX8_setOrder_9 : decode cX8_setOrder 9 = .ok (.new 234, 3) := by decide +kernel
theorem dX8_setOrder_12 : decode cX8_setOrder 12 = .ok (.dup, 1) := by decide +kernel
theorem dX8_setOrder_13 : decode cX8_setOrder 13 = .ok (.ldc_w 331, 3) := by decide +kernel
theorem dX8_setOrder_16 : decode cX8_setOrder 16 = .ok (.invokespecial 238, 3) := by decide +kernel
theorem dX8_setOrder_19 : decode cX8_setOrder 19 = .ok (.athrow, 1) := by decide +kernel
theorem dX8_setOrder_20 : decode cX8_setOrder 20 = .ok (.aload_n 0, 1) := by decide +kernel
theorem dX8_setOrder_21 : decode cX8_setOrder 21 = .ok (.getfield 50, 3) := by decide +kernel
theorem dX8_setOrder_24 : decode cX8_setOrder 24 = .ok (.aload_n 0, 1) := by decide +kernel
theorem dX8_setOrder_25 : decode cX8_setOrder 25 = .ok (.getfield 31, 3) := by decide +kernel
theorem dX8_setOrder_28 : decode cX8_setOrder 28 = .ok (.invokevirtual 283, 3) := by decide +kernel
theorem dX8_setOrder_31 : decode cX8_setOrder 31 = .ok (.aload_n 0, 1) := by decide +kernel
theorem dX8_setOrder_32 : decode cX8_setOrder 32 = .ok (.getfield 31, 3) := by decide +kernel
theorem dX8_setOrder_35 : decode cX8_setOrder 35 = .ok (.getfield 111, 3) := by decide +kernel
theorem dX8_setOrder_38 : decode cX8_setOrder 38 = .ok (.istore_n 2, 1) := by decide +kernel
theorem dX8_setOrder_39 : decode cX8_setOrder 39 = .ok (.aload_n 0, 1) := by decide +kernel
theorem dX8_setOrder_40 : decode cX8_setOrder 40 = .ok (.getfield 31, 3) := by decide +kernel
theorem dX8_setOrder_43 : decode cX8_setOrder 43 = .ok (.iload_n 1, 1) := by decide +kernel
theorem dX8_setOrder_44 : decode cX8_setOrder 44 = .ok (.putfield 111, 3) := by decide +kernel
theorem dX8_setOrder_47 : decode cX8_setOrder 47 = .ok (.iload_n 2, 1) := by decide +kernel
theorem dX8_setOrder_48 : decode cX8_setOrder 48 = .ok (.ireturn, 1) := by decide +kernel
theorem dX8_undo_0 : decode cX8_undo 0 = .ok (.aload_n 0, 1) := by decide +kernel
theorem dX8_undo_1 : decode cX8_undo 1 = .ok (.getfield 50, 3) := by decide +kernel
theorem dX8_undo_4 : decode cX8_undo 4 = .ok (.getfield 158, 3) := by decide +kernel
theorem dX8_undo_7 : decode cX8_undo 7 = .ok (.ifCond .ne 14, 3) := by decide +kernel
theorem dX8_undo_10 : decode cX8_undo 10 = .ok (.new 278, 3) := by decide +kernel
theorem dX8_undo_13 : decode cX8_undo 13 = .ok (.dup, 1) := by decide +kernel
theorem dX8_undo_14 : decode cX8_undo 14 = .ok (.ldc_w 333, 3) := by decide +kernel
theorem dX8_undo_17 : decode cX8_undo 17 = .ok (.invokespecial 282, 3) := by decide +kernel
theorem dX8_undo_20 : decode cX8_undo 20 = .ok (.athrow, 1) := by decide +kernel
theorem dX8_undo_21 : decode cX8_undo 21 = .ok (.aload_n 0, 1) := by decide +kernel
theorem dX8_undo_22 : decode cX8_undo 22 = .ok (.getfield 50, 3) := by decide +kernel
theorem dX8_undo_25 : decode cX8_undo 25 = .ok (.aload_n 0, 1) := by decide +kernel
theorem dX8_undo_26 : decode cX8_undo 26 = .ok (.getfield 31, 3) := by decide +kernel
theorem dX8_undo_29 : decode cX8_undo 29 = .ok (.invokevirtual 335, 3) := by decide +kernel
theorem dX8_undo_32 : decode cX8_undo 32 = .ok (.aload_n 0, 1) := by decide +kernel
theorem dX8_undo_33 : decode cX8_undo 33 = .ok (.getfield 50, 3) := by decide +kernel
theorem dX8_undo_36 : decode cX8_undo 36 = .ok (.getfield 158, 3) := by decide +kernel
theorem dX8_undo_39 : decode cX8_undo 39 = .ok (.ireturn, 1) := by decide +kernel
def s_X8_run_46 (n : Nat) (sv_th : Value) (th_0 : OS) (ru_0 : OS) (w1_j46 : Int32) (rc_46 : (OS) → (PS) → (Int32) → (Int32) → Option (OS × PS × Int32 × Nat)) (no_j46 : OS) (pa_j46 : PS) (w2_j46 : Int32) (w3_j46 : Int32) : Option (OS × PS × Int32 × Nat) :=
  if w1_j46 ≤ w3_j46 then (
  some (no_j46, pa_j46, w2_j46, 0)) else (
  bnd2 (f_X2_tick n no_j46 ru_0) (fun (no_4 : OS) (r_5 : Int32) =>
  Let (w2_j46 + r_5) (fun v2_6 : Int32 =>
  Let (w3_j46 + (1 : Int32)) (fun v3_7 : Int32 =>
  rc_46 no_4 pa_j46 v2_6 v3_7))))
def l_X8_run_46 (n : Nat) (sv_th : Value) (th_0 : OS) (ru_0 : OS) (w1_j46 : Int32) : Nat → (OS) → (PS) → (Int32) → (Int32) → Option (OS × PS × Int32 × Nat)
  | 0 => fun _ _ _ _ => none
  | N + 1 => s_X8_run_46 n sv_th th_0 ru_0 w1_j46 (l_X8_run_46 n sv_th th_0 ru_0 w1_j46 N)
def f_X8_run (n : Nat) (sv_th : Value) (th_0 : OS) (ru_0 : OS) (no_0 : OS) (pa_0 : PS) (v1_0 : Int32) : Option (OS × PS × Int32 × Nat) :=
  bnd (f_X8_needTicks n sv_th th_0 v1_0) (fun (cd_1 : Nat) =>
  if cd_1 = 0 then (
  if ((no_0.1 0) + v1_0) ≤ (2000 : Int32) then (
  bnd (f_X3_keep n pa_0 no_0) (fun (pa_2 : PS) =>
  l_X8_run_46 n sv_th th_0 ru_0 v1_0 n no_0 pa_2 (0 : Int32) (0 : Int32))) else (
  some (no_0, pa_0, (0 : Int32), 3))) else (
  some (no_0, pa_0, (0 : Int32), cd_1)))
set_option maxHeartbeats 4000000 in
set_option maxRecDepth 100000 in
theorem c_X8_run (n : Nat) (l : Launch) (k : KT) (hx : XH l k) (a_th : Nat → Nat) (a_in : Nat → Nat) (a_ou : Nat → Nat) (a_ru : Nat → Nat) (a_no : Nat → Nat) (a_fo : Nat → Nat) (a_rd : Nat → Nat) (a_pa : Nat → Nat) (pp_0 : Nat → Nat → Nat) (sv_th : Value) (th_0 : OS) (ru_0 : OS) (no_0 : OS) (pa_0 : PS) (v1_0 : Int32) (res : (OS × PS × Int32 × Nat)) (hf : f_X8_run n sv_th th_0 ru_0 no_0 pa_0 v1_0 = some res) : CX l k yX8_run cX8_run 4 (some .int) 7 14 2006 222 [.ref (a_th 0), .int v1_0] ((wMCo k a_th (a_in 0) (a_ou 0) (a_ru 0) (a_no 0) (a_fo 0) (a_rd 0) (a_pa 0) sv_th th_0 ++ wRules k a_ru ru_0 ++ wCourt k a_no no_0 ++ wPast k a_pa pp_0 pa_0) ++ poolW k pp_0 pa_0.2) (Qi k (fun u : (OS) × (PS) × (Nat → Nat → Nat) => (wMCo k a_th (a_in 0) (a_ou 0) (a_ru 0) (a_no 0) (a_fo 0) (a_rd 0) (a_pa 0) sv_th th_0 ++ wRules k a_ru ru_0 ++ wCourt k a_no (u.1) ++ wPast k a_pa (u.2.2) (u.2.1)) ++ poolW k (u.2.2) (u.2.1).2) (fun (r : Int32) (u : (OS) × (PS) × (Nat → Nat → Nat)) => res = (u.1, u.2.1, r, 0))) (Xq k (fun u : (OS) × (PS) × (Nat → Nat → Nat) => (wMCo k a_th (a_in 0) (a_ou 0) (a_ru 0) (a_no 0) (a_fo 0) (a_rd 0) (a_pa 0) sv_th th_0 ++ wRules k a_ru ru_0 ++ wCourt k a_no (u.1) ++ wPast k a_pa (u.2.2) (u.2.1)) ++ poolW k (u.2.2) (u.2.1).2) (fun (cd : Nat) (u : (OS) × (PS) × (Nat → Nat → Nat)) => cd ≠ 0 ∧ res = (u.1, u.2.1, (0 : Int32), cd))) := by
  refine CX.ofI hx rfl (by decide) (Nat.le_of_ble_eq_true rfl) (by decide) (by decide) (fun p e s m args below meth c A Q E hnm hW hA hret hout hthr ls hl => ?_)
  have hl : lv_has ls 4 [(0, .ref (a_th 0)), (1, .int v1_0)] := hl
  unfold f_X8_run at hf
  refine k_aload_n E hl 0 dX8_run_0 rfl ?_
  refine k_iload_n E hl 1 dX8_run_1 rfl ?_
  obtain ⟨cd_1, hg, hf⟩ := ob hf
  refine k_callXv (As := [.int v1_0]) (rest := []) (ws2 := fun u => (wMCo k a_th (a_in 0) (a_ou 0) (a_ru 0) (a_no 0) (a_fo 0) (a_rd 0) (a_pa 0) sv_th th_0 ++ wRules k a_ru ru_0 ++ wCourt k a_no no_0 ++ wPast k a_pa pp_0 pa_0) ++ poolW k pp_0 pa_0.2) (c_X8_needTicks n l k hx a_th a_in a_ou a_ru a_no a_fo a_rd a_pa sv_th th_0 v1_0 cd_1 hg) E vl_X8_275 dX8_run_2 rfl [0] 6 0 hW hA hl rfl rfl rfl rfl ⟨by decide, by decide⟩ ⟨by decide, by decide⟩ (Nat.le_of_ble_eq_true rfl) rfl (fun _ => rfl) (fun _ => rfl) (fun cd9 u ce9 q9 H locs hp hW hce hcv hcls => ?_) (fun u H locs hp hW => ?_)
  · obtain ⟨hcd, hp⟩ := hp
    cases hp
    have hW : WD k A s.heap ((wMCo k a_th (a_in 0) (a_ou 0) (a_ru 0) (a_no 0) (a_fo 0) (a_rd 0) (a_pa 0) sv_th th_0 ++ wRules k a_ru ru_0 ++ wCourt k a_no no_0 ++ wPast k a_pa pp_0 pa_0) ++ poolW k pp_0 pa_0.2) H locs := hW
    have hf := oF hcd hf
    exact hout _ (no_0, pa_0, pp_0) _ _ _ _ _ _ _ _ _ ⟨hcd, (Option.some.inj hf).symm⟩ hW hce hcv hcls (by decide) (by decide)
  cases hp
  have hW : WD k A s.heap ((wMCo k a_th (a_in 0) (a_ou 0) (a_ru 0) (a_no 0) (a_fo 0) (a_rd 0) (a_pa 0) sv_th th_0 ++ wRules k a_ru ru_0 ++ wCourt k a_no no_0 ++ wPast k a_pa pp_0 pa_0) ++ poolW k pp_0 pa_0.2) H locs := hW
  have hf := oT rfl hf
  refine k_aload_n E hl 0 dX8_run_5 rfl ?_
  refine gf_X8_31 E hW 0 rfl rfl dX8_run_6 ?_
  refine gf_X8_108 E hW 4 rfl rfl dX8_run_9 ?_
  refine k_iload_n E hl 1 dX8_run_12 rfl ?_
  refine lv_iadd E.hx E.hb dX8_run_13 ?_
  refine lv_sipush (v := (2000 : Int32)) E.hx E.hb dX8_run_14 sp_2000 ?_
  refine lv_icmp_le (tgt := 31) E.hx E.hb dX8_run_17 (by decide) (fun hc => ?_) (fun hc => ?_)
  · have hf := oT hc hf
    refine k_aload_n E hl 0 dX8_run_31 rfl ?_
    refine gf_X8_50 E hW 0 rfl rfl dX8_run_32 ?_
    refine k_aload_n E hl 0 dX8_run_35 rfl ?_
    refine gf_X8_31 E hW 0 rfl rfl dX8_run_36 ?_
    obtain ⟨pa_2, hg, hf⟩ := ob hf
    refine k_callGv (As := [.ref (a_no 0)]) (rest := []) (ws2 := fun u => (wMCo k a_th (a_in 0) (a_ou 0) (a_ru 0) (a_no 0) (a_fo 0) (a_rd 0) (a_pa 0) sv_th th_0 ++ wRules k a_ru ru_0 ++ wCourt k a_no no_0 ++ wPast k a_pa u.2 (u.1)) ++ poolW k u.2 (u.1).2) (c_X3_keep n l k a_no a_pa pp_0 pa_0 no_0 pa_2 hg) E vl_X8_283 dX8_run_39 rfl [4, 5, 6, 7, 8, 9, 10, 11, 12, 13, 14, 15, 16, 17] 2 16 hW hA hl rfl rfl rfl rfl ⟨by decide, by decide⟩ ⟨by decide, by decide⟩ (Nat.le_of_ble_eq_true rfl) rfl (fun _ => rfl) (fun _ => rfl) (fun u H locs hp hW => ?_)
    obtain ⟨u0, pp_3⟩ := u
    try dsimp only at hp
    cases hp
    have hW : WD k A s.heap ((wMCo k a_th (a_in 0) (a_ou 0) (a_ru 0) (a_no 0) (a_fo 0) (a_rd 0) (a_pa 0) sv_th th_0 ++ wRules k a_ru ru_0 ++ wCourt k a_no no_0 ++ wPast k a_pa pp_3 pa_2) ++ poolW k pp_3 pa_2.2) H locs := hW
    refine lv_iconst (v := (0 : Int32)) E.hx E.hb dX8_run_42 ic_0 ?_
    refine k_istore_n (lv' := [(2, .int (0 : Int32)), (0, .ref (a_th 0)), (1, .int v1_0)]) E rfl hl dX8_run_43 rfl (by decide) rfl (fun ls hl => ?_)
    refine lv_iconst (v := (0 : Int32)) E.hx E.hb dX8_run_44 ic_0 ?_
    refine k_istore_n (lv' := [(3, .int (0 : Int32)), (2, .int (0 : Int32)), (0, .ref (a_th 0)), (1, .int v1_0)]) E rfl hl dX8_run_45 rfl (by decide) rfl (fun ls hl => ?_)
    have L_46 : ∀ (N_46 : Nat) (no_j46 : OS) (pa_j46 : PS) (w2_j46 : Int32) (w3_j46 : Int32) (H : Heap) (locs : List Loc) (ls : Array Slot) (hW : WD k A s.heap ((wMCo k a_th (a_in 0) (a_ou 0) (a_ru 0) (a_no 0) (a_fo 0) (a_rd 0) (a_pa 0) sv_th th_0 ++ wRules k a_ru ru_0 ++ wCourt k a_no no_j46 ++ wPast k a_pa pp_3 pa_j46) ++ poolW k pp_3 pa_j46.2) H locs) (hl : lv_has ls 4 [(0, .ref (a_th 0)), (1, .int v1_0), (2, .int w2_j46), (3, .int w3_j46)]) (hf : l_X8_run_46 n sv_th th_0 ru_0 v1_0 N_46 no_j46 pa_j46 w2_j46 w3_j46 = some res), W p l e { frames := 7, cells := 14, slots := 2006, locals := 222 } s m args below meth c H locs 14 2006 Q (F0 m 46 ls []) := by
      intro N_46
      induction N_46 with
      | zero => intro no_j46 pa_j46 w2_j46 w3_j46 H locs ls hW hl hf; exact o0 hf
      | succ N_46 ih_46 =>
        intro no_j46 pa_j46 w2_j46 w3_j46 H locs ls hW hl hf
        have hf : s_X8_run_46 n sv_th th_0 ru_0 v1_0 (l_X8_run_46 n sv_th th_0 ru_0 v1_0 N_46) no_j46 pa_j46 w2_j46 w3_j46 = some res := hf
        unfold s_X8_run_46 at hf
        refine k_iload_n E hl 3 dX8_run_46 rfl ?_
        refine k_iload_n E hl 1 dX8_run_47 rfl ?_
        refine lv_icmp_ge (tgt := 71) E.hx E.hb dX8_run_48 (by decide) (fun hc => ?_) (fun hc => ?_)
        · have hf := oT hc hf
          refine k_iload_n E hl 2 dX8_run_71 rfl ?_
          exact hret _ (no_j46, pa_j46, pp_3) _ _ _ _ _ _ hW (Option.some.inj hf).symm rfl (by decide) (by decide) dX8_run_72
        · have hf := oF hc hf
          refine k_iload_n E hl 2 dX8_run_51 rfl ?_
          refine k_aload_n E hl 0 dX8_run_52 rfl ?_
          refine gf_X8_31 E hW 0 rfl rfl dX8_run_53 ?_
          refine k_aload_n E hl 0 dX8_run_56 rfl ?_
          refine gf_X8_24 E hW 0 rfl rfl dX8_run_57 ?_
          obtain ⟨no_4, r_5, hg, hf⟩ := ob2 hf
          refine k_callVi (As := [.ref (a_ru 0)]) (rest := [.int w2_j46]) (ws2 := fun u => (wMCo k a_th (a_in 0) (a_ou 0) (a_ru 0) (a_no 0) (a_fo 0) (a_rd 0) (a_pa 0) sv_th th_0 ++ wRules k a_ru ru_0 ++ wCourt k a_no (u) ++ wPast k a_pa pp_3 pa_j46) ++ poolW k pp_3 pa_j46.2) (c_X2_tick n l k a_no a_ru no_j46 ru_0 (no_4, r_5) hg) E vl_X8_286 dX8_run_60 rfl [4, 5, 6, 7, 8, 9, 10, 11, 12, 13, 14, 15, 1, 2, 3] 1 4 hW hA hl rfl rfl rfl rfl ⟨by decide, by decide⟩ ⟨by decide, by decide⟩ (Nat.le_of_ble_eq_true rfl) rfl (fun _ => rfl) (fun _ => rfl) (fun r u H locs hp hW => ?_)
          cases hp
          have hW : WD k A s.heap ((wMCo k a_th (a_in 0) (a_ou 0) (a_ru 0) (a_no 0) (a_fo 0) (a_rd 0) (a_pa 0) sv_th th_0 ++ wRules k a_ru ru_0 ++ wCourt k a_no no_4 ++ wPast k a_pa pp_3 pa_j46) ++ poolW k pp_3 pa_j46.2) H locs := hW
          refine lv_iadd E.hx E.hb dX8_run_63 ?_
          obtain ⟨v2_6, ev2_6, hf⟩ := oL hf
          refine k_istore_n (lv' := [(2, .int v2_6), (0, .ref (a_th 0)), (1, .int v1_0), (3, .int w3_j46)]) E ev2_6 hl dX8_run_64 rfl (by decide) rfl (fun ls hl => ?_)
          obtain ⟨v3_7, ev3_7, hf⟩ := oL hf
          refine k_iinc (lv' := [(3, .int v3_7), (2, .int v2_6), (0, .ref (a_th 0)), (1, .int v1_0)]) E hl 3 dX8_run_65 rfl (ev3_7.trans (congrArg (fun z => w3_j46 + z) ic_1.symm)) (by decide) rfl (fun ls hl => ?_)
          refine lv_goto (tgt := 46) E.hx E.hb dX8_run_68 (by decide) ?_
          exact ih_46 no_4 pa_j46 v2_6 v3_7 _ _ _ hW (lv_sub hl [2, 3, 1, 0] rfl) hf
    exact L_46 n no_0 pa_2 (0 : Int32) (0 : Int32) _ _ _ hW (lv_sub hl [2, 3, 1, 0] rfl) hf
  · have hf := oF hc hf
    exact hthr 3 (no_0, pa_0, pp_0) _ _ _ _ _ _ _ _ _ _ _ xr_3 xt_280 ⟨by decide, (Option.some.inj hf).symm⟩ hW hl ⟨dX8_run_20, dX8_run_23, Or.inr ⟨dX8_run_24, dX8_run_27, dX8_run_30⟩⟩ (by decide) (by decide)
def f_X8_ask (n : Nat) (sv_th : Value) (th_0 : OS) (ru_0 : OS) (no_0 : OS) (pa_0 : PS) (v1_0 : Int32) (v2_0 : Int32) (v3_0 : Int32) : Option (OS × PS × Int32 × Nat) :=
  bnd (f_X8_needProcess n sv_th th_0 ru_0 v1_0) (fun (cd_1 : Nat) =>
  if cd_1 = 0 then (
  if v2_0 < (1 : Int32) then (
  some (no_0, pa_0, (0 : Int32), 2)) else (
  if (ru_0.1 0) < v2_0 then (
  some (no_0, pa_0, (0 : Int32), 2)) else (
  if v3_0 < (1 : Int32) then (
  some (no_0, pa_0, (0 : Int32), 2)) else (
  if v3_0 ≤ (99 : Int32) then (
  if (no_0.1 4) < (60 : Int32) then (
  bnd (f_X3_keep n pa_0 no_0) (fun (pa_2 : PS) =>
  bnd2 (f_X2_addClaim n no_0 v1_0 v2_0 v3_0) (fun (no_4 : OS) (r_5 : Int32) =>
  some (no_4, pa_2, r_5, 0)))) else (
  some (no_0, pa_0, (0 : Int32), 3))) else (
  some (no_0, pa_0, (0 : Int32), 2)))))) else (
  some (no_0, pa_0, (0 : Int32), cd_1)))
set_option maxHeartbeats 4000000 in
set_option maxRecDepth 100000 in
theorem c_X8_ask (n : Nat) (l : Launch) (k : KT) (hx : XH l k) (a_th : Nat → Nat) (a_in : Nat → Nat) (a_ou : Nat → Nat) (a_ru : Nat → Nat) (a_no : Nat → Nat) (a_fo : Nat → Nat) (a_rd : Nat → Nat) (a_pa : Nat → Nat) (pp_0 : Nat → Nat → Nat) (sv_th : Value) (th_0 : OS) (ru_0 : OS) (no_0 : OS) (pa_0 : PS) (v1_0 : Int32) (v2_0 : Int32) (v3_0 : Int32) (res : (OS × PS × Int32 × Nat)) (hf : f_X8_ask n sv_th th_0 ru_0 no_0 pa_0 v1_0 v2_0 v3_0 = some res) : CX l k yX8_ask cX8_ask 4 (some .int) 7 14 2006 222 [.ref (a_th 0), .int v1_0, .int v2_0, .int v3_0] ((wMCo k a_th (a_in 0) (a_ou 0) (a_ru 0) (a_no 0) (a_fo 0) (a_rd 0) (a_pa 0) sv_th th_0 ++ wRules k a_ru ru_0 ++ wCourt k a_no no_0 ++ wPast k a_pa pp_0 pa_0) ++ poolW k pp_0 pa_0.2) (Qi k (fun u : (OS) × (PS) × (Nat → Nat → Nat) => (wMCo k a_th (a_in 0) (a_ou 0) (a_ru 0) (a_no 0) (a_fo 0) (a_rd 0) (a_pa 0) sv_th th_0 ++ wRules k a_ru ru_0 ++ wCourt k a_no (u.1) ++ wPast k a_pa (u.2.2) (u.2.1)) ++ poolW k (u.2.2) (u.2.1).2) (fun (r : Int32) (u : (OS) × (PS) × (Nat → Nat → Nat)) => res = (u.1, u.2.1, r, 0))) (Xq k (fun u : (OS) × (PS) × (Nat → Nat → Nat) => (wMCo k a_th (a_in 0) (a_ou 0) (a_ru 0) (a_no 0) (a_fo 0) (a_rd 0) (a_pa 0) sv_th th_0 ++ wRules k a_ru ru_0 ++ wCourt k a_no (u.1) ++ wPast k a_pa (u.2.2) (u.2.1)) ++ poolW k (u.2.2) (u.2.1).2) (fun (cd : Nat) (u : (OS) × (PS) × (Nat → Nat → Nat)) => cd ≠ 0 ∧ res = (u.1, u.2.1, (0 : Int32), cd))) := by
  refine CX.ofI hx rfl (by decide) (Nat.le_of_ble_eq_true rfl) (by decide) (by decide) (fun p e s m args below meth c A Q E hnm hW hA hret hout hthr ls hl => ?_)
  have hl : lv_has ls 4 [(0, .ref (a_th 0)), (1, .int v1_0), (2, .int v2_0), (3, .int v3_0)] := hl
  unfold f_X8_ask at hf
  refine k_aload_n E hl 0 dX8_ask_0 rfl ?_
  refine k_iload_n E hl 1 dX8_ask_1 rfl ?_
  obtain ⟨cd_1, hg, hf⟩ := ob hf
  refine k_callXv (As := [.int v1_0]) (rest := []) (ws2 := fun u => (wMCo k a_th (a_in 0) (a_ou 0) (a_ru 0) (a_no 0) (a_fo 0) (a_rd 0) (a_pa 0) sv_th th_0 ++ wRules k a_ru ru_0 ++ wCourt k a_no no_0 ++ wPast k a_pa pp_0 pa_0) ++ poolW k pp_0 pa_0.2) (c_X8_needProcess n l k hx a_th a_in a_ou a_ru a_no a_fo a_rd a_pa sv_th th_0 ru_0 v1_0 cd_1 hg) E vl_X8_165 dX8_ask_2 rfl [0, 1, 2, 3] 6 0 hW hA hl rfl rfl rfl rfl ⟨by decide, by decide⟩ ⟨by decide, by decide⟩ (Nat.le_of_ble_eq_true rfl) rfl (fun _ => rfl) (fun _ => rfl) (fun cd9 u ce9 q9 H locs hp hW hce hcv hcls => ?_) (fun u H locs hp hW => ?_)
  · obtain ⟨hcd, hp⟩ := hp
    cases hp
    have hW : WD k A s.heap ((wMCo k a_th (a_in 0) (a_ou 0) (a_ru 0) (a_no 0) (a_fo 0) (a_rd 0) (a_pa 0) sv_th th_0 ++ wRules k a_ru ru_0 ++ wCourt k a_no no_0 ++ wPast k a_pa pp_0 pa_0) ++ poolW k pp_0 pa_0.2) H locs := hW
    have hf := oF hcd hf
    exact hout _ (no_0, pa_0, pp_0) _ _ _ _ _ _ _ _ _ ⟨hcd, (Option.some.inj hf).symm⟩ hW hce hcv hcls (by decide) (by decide)
  cases hp
  have hW : WD k A s.heap ((wMCo k a_th (a_in 0) (a_ou 0) (a_ru 0) (a_no 0) (a_fo 0) (a_rd 0) (a_pa 0) sv_th th_0 ++ wRules k a_ru ru_0 ++ wCourt k a_no no_0 ++ wPast k a_pa pp_0 pa_0) ++ poolW k pp_0 pa_0.2) H locs := hW
  have hf := oT rfl hf
  refine k_iload_n E hl 2 dX8_ask_5 rfl ?_
  refine lv_iconst (v := (1 : Int32)) E.hx E.hb dX8_ask_6 ic_1 ?_
  refine lv_icmp_lt (tgt := 32) E.hx E.hb dX8_ask_7 (by decide) (fun hc => ?_) (fun hc => ?_)
  · have hf := oT hc hf
    exact hthr 2 (no_0, pa_0, pp_0) _ _ _ _ _ _ _ _ _ _ _ xr_2 xt_290 ⟨by decide, (Option.some.inj hf).symm⟩ hW hl ⟨dX8_ask_32, dX8_ask_35, Or.inr ⟨dX8_ask_36, dX8_ask_39, dX8_ask_42⟩⟩ (by decide) (by decide)
  · have hf := oF hc hf
    refine k_iload_n E hl 2 dX8_ask_10 rfl ?_
    refine k_aload_n E hl 0 dX8_ask_11 rfl ?_
    refine gf_X8_24 E hW 0 rfl rfl dX8_ask_12 ?_
    refine gf_X8_105 E hW 1 rfl rfl dX8_ask_15 ?_
    refine lv_icmp_gt (tgt := 32) E.hx E.hb dX8_ask_18 (by decide) (fun hc => ?_) (fun hc => ?_)
    · have hf := oT hc hf
      exact hthr 2 (no_0, pa_0, pp_0) _ _ _ _ _ _ _ _ _ _ _ xr_2 xt_290 ⟨by decide, (Option.some.inj hf).symm⟩ hW hl ⟨dX8_ask_32, dX8_ask_35, Or.inr ⟨dX8_ask_36, dX8_ask_39, dX8_ask_42⟩⟩ (by decide) (by decide)
    · have hf := oF hc hf
      refine k_iload_n E hl 3 dX8_ask_21 rfl ?_
      refine lv_iconst (v := (1 : Int32)) E.hx E.hb dX8_ask_22 ic_1 ?_
      refine lv_icmp_lt (tgt := 32) E.hx E.hb dX8_ask_23 (by decide) (fun hc => ?_) (fun hc => ?_)
      · have hf := oT hc hf
        exact hthr 2 (no_0, pa_0, pp_0) _ _ _ _ _ _ _ _ _ _ _ xr_2 xt_290 ⟨by decide, (Option.some.inj hf).symm⟩ hW hl ⟨dX8_ask_32, dX8_ask_35, Or.inr ⟨dX8_ask_36, dX8_ask_39, dX8_ask_42⟩⟩ (by decide) (by decide)
      · have hf := oF hc hf
        refine k_iload_n E hl 3 dX8_ask_26 rfl ?_
        refine lv_bipush (v := (99 : Int32)) E.hx E.hb dX8_ask_27 bp_99 ?_
        refine lv_icmp_le (tgt := 43) E.hx E.hb dX8_ask_29 (by decide) (fun hc => ?_) (fun hc => ?_)
        · have hf := oT hc hf
          refine k_aload_n E hl 0 dX8_ask_43 rfl ?_
          refine gf_X8_31 E hW 0 rfl rfl dX8_ask_44 ?_
          refine gf_X8_142 E hW 4 rfl rfl dX8_ask_47 ?_
          refine lv_bipush (v := (60 : Int32)) E.hx E.hb dX8_ask_50 bp_60 ?_
          refine lv_icmp_lt (tgt := 66) E.hx E.hb dX8_ask_52 (by decide) (fun hc => ?_) (fun hc => ?_)
          · have hf := oT hc hf
            refine k_aload_n E hl 0 dX8_ask_66 rfl ?_
            refine gf_X8_50 E hW 0 rfl rfl dX8_ask_67 ?_
            refine k_aload_n E hl 0 dX8_ask_70 rfl ?_
            refine gf_X8_31 E hW 0 rfl rfl dX8_ask_71 ?_
            obtain ⟨pa_2, hg, hf⟩ := ob hf
            refine k_callGv (As := [.ref (a_no 0)]) (rest := []) (ws2 := fun u => (wMCo k a_th (a_in 0) (a_ou 0) (a_ru 0) (a_no 0) (a_fo 0) (a_rd 0) (a_pa 0) sv_th th_0 ++ wRules k a_ru ru_0 ++ wCourt k a_no no_0 ++ wPast k a_pa u.2 (u.1)) ++ poolW k u.2 (u.1).2) (c_X3_keep n l k a_no a_pa pp_0 pa_0 no_0 pa_2 hg) E vl_X8_283 dX8_ask_74 rfl [4, 5, 6, 7, 8, 9, 10, 11, 12, 13, 14, 15, 16, 17] 2 16 hW hA hl rfl rfl rfl rfl ⟨by decide, by decide⟩ ⟨by decide, by decide⟩ (Nat.le_of_ble_eq_true rfl) rfl (fun _ => rfl) (fun _ => rfl) (fun u H locs hp hW => ?_)
            obtain ⟨u0, pp_3⟩ := u
            try dsimp only at hp
            cases hp
            have hW : WD k A s.heap ((wMCo k a_th (a_in 0) (a_ou 0) (a_ru 0) (a_no 0) (a_fo 0) (a_rd 0) (a_pa 0) sv_th th_0 ++ wRules k a_ru ru_0 ++ wCourt k a_no no_0 ++ wPast k a_pa pp_3 pa_2) ++ poolW k pp_3 pa_2.2) H locs := hW
            refine k_aload_n E hl 0 dX8_ask_77 rfl ?_
            refine gf_X8_31 E hW 0 rfl rfl dX8_ask_78 ?_
            refine k_iload_n E hl 1 dX8_ask_81 rfl ?_
            refine k_iload_n E hl 2 dX8_ask_82 rfl ?_
            refine k_iload_n E hl 3 dX8_ask_83 rfl ?_
            obtain ⟨no_4, r_5, hg, hf⟩ := ob2 hf
            refine k_callVi (As := [.int v1_0, .int v2_0, .int v3_0]) (rest := []) (ws2 := fun u => (wMCo k a_th (a_in 0) (a_ou 0) (a_ru 0) (a_no 0) (a_fo 0) (a_rd 0) (a_pa 0) sv_th th_0 ++ wRules k a_ru ru_0 ++ wCourt k a_no (u) ++ wPast k a_pa pp_3 pa_2) ++ poolW k pp_3 pa_2.2) (c_X2_addClaim n l k a_no no_0 v1_0 v2_0 v3_0 (no_4, r_5) hg) E vl_X8_294 dX8_ask_84 rfl [4, 5, 6, 7, 8, 9, 10, 11, 12, 13, 14, 15] 1 4 hW hA hl rfl rfl rfl rfl ⟨by decide, by decide⟩ ⟨by decide, by decide⟩ (Nat.le_of_ble_eq_true rfl) rfl (fun _ => rfl) (fun _ => rfl) (fun r u H locs hp hW => ?_)
            cases hp
            have hW : WD k A s.heap ((wMCo k a_th (a_in 0) (a_ou 0) (a_ru 0) (a_no 0) (a_fo 0) (a_rd 0) (a_pa 0) sv_th th_0 ++ wRules k a_ru ru_0 ++ wCourt k a_no no_4 ++ wPast k a_pa pp_3 pa_2) ++ poolW k pp_3 pa_2.2) H locs := hW
            exact hret _ (no_4, pa_2, pp_3) _ _ _ _ _ _ hW (Option.some.inj hf).symm rfl (by decide) (by decide) dX8_ask_87
          · have hf := oF hc hf
            exact hthr 3 (no_0, pa_0, pp_0) _ _ _ _ _ _ _ _ _ _ _ xr_3 xt_292 ⟨by decide, (Option.some.inj hf).symm⟩ hW hl ⟨dX8_ask_55, dX8_ask_58, Or.inr ⟨dX8_ask_59, dX8_ask_62, dX8_ask_65⟩⟩ (by decide) (by decide)
        · have hf := oF hc hf
          exact hthr 2 (no_0, pa_0, pp_0) _ _ _ _ _ _ _ _ _ _ _ xr_2 xt_290 ⟨by decide, (Option.some.inj hf).symm⟩ hW hl ⟨dX8_ask_32, dX8_ask_35, Or.inr ⟨dX8_ask_36, dX8_ask_39, dX8_ask_42⟩⟩ (by decide) (by decide)
def f_X8_withdraw (n : Nat) (sv_th : Value) (th_0 : OS) (no_0 : OS) (pa_0 : PS) (v1_0 : Int32) : Option (OS × PS × Int32 × Nat) :=
  bnd (f_X8_needClaim n sv_th th_0 no_0 v1_0) (fun (cd_1 : Nat) =>
  if cd_1 = 0 then (
  bnd (f_X2_waits n no_0 v1_0) (fun (r_2 : Int32) =>
  if r_2 = 0 then (
  some (no_0, pa_0, (0 : Int32), 3)) else (
  bnd (f_X3_keep n pa_0 no_0) (fun (pa_3 : PS) =>
  bnd (f_X6_set n (7 : Int32) 420 (no_0.2.1 13) v1_0 (3 : Int32) (3 : Int32)) (fun (y_5 : Nat → Int32) =>
  Let (sA no_0 13 y_5) (fun no_6 : OS =>
  bnd (f_X6_get n (7 : Int32) 420 (no_6.2.1 13) v1_0 (4 : Int32)) (fun (r_7 : Int32) =>
  some (no_6, pa_3, r_7, 0)))))))) else (
  some (no_0, pa_0, (0 : Int32), cd_1)))
set_option maxHeartbeats 4000000 in
set_option maxRecDepth 100000 in
theorem c_X8_withdraw (n : Nat) (l : Launch) (k : KT) (hx : XH l k) (a_th : Nat → Nat) (a_in : Nat → Nat) (a_ou : Nat → Nat) (a_ru : Nat → Nat) (a_no : Nat → Nat) (a_fo : Nat → Nat) (a_rd : Nat → Nat) (a_pa : Nat → Nat) (pp_0 : Nat → Nat → Nat) (sv_th : Value) (th_0 : OS) (no_0 : OS) (pa_0 : PS) (v1_0 : Int32) (res : (OS × PS × Int32 × Nat)) (hf : f_X8_withdraw n sv_th th_0 no_0 pa_0 v1_0 = some res) : CX l k yX8_withdraw cX8_withdraw 2 (some .int) 7 14 2006 222 [.ref (a_th 0), .int v1_0] ((wMCo k a_th (a_in 0) (a_ou 0) (a_ru 0) (a_no 0) (a_fo 0) (a_rd 0) (a_pa 0) sv_th th_0 ++ wCourt k a_no no_0 ++ wPast k a_pa pp_0 pa_0) ++ poolW k pp_0 pa_0.2) (Qi k (fun u : (OS) × (PS) × (Nat → Nat → Nat) => (wMCo k a_th (a_in 0) (a_ou 0) (a_ru 0) (a_no 0) (a_fo 0) (a_rd 0) (a_pa 0) sv_th th_0 ++ wCourt k a_no (u.1) ++ wPast k a_pa (u.2.2) (u.2.1)) ++ poolW k (u.2.2) (u.2.1).2) (fun (r : Int32) (u : (OS) × (PS) × (Nat → Nat → Nat)) => res = (u.1, u.2.1, r, 0))) (Xq k (fun u : (OS) × (PS) × (Nat → Nat → Nat) => (wMCo k a_th (a_in 0) (a_ou 0) (a_ru 0) (a_no 0) (a_fo 0) (a_rd 0) (a_pa 0) sv_th th_0 ++ wCourt k a_no (u.1) ++ wPast k a_pa (u.2.2) (u.2.1)) ++ poolW k (u.2.2) (u.2.1).2) (fun (cd : Nat) (u : (OS) × (PS) × (Nat → Nat → Nat)) => cd ≠ 0 ∧ res = (u.1, u.2.1, (0 : Int32), cd))) := by
  refine CX.ofI hx rfl (by decide) (Nat.le_of_ble_eq_true rfl) (by decide) (by decide) (fun p e s m args below meth c A Q E hnm hW hA hret hout hthr ls hl => ?_)
  have hl : lv_has ls 2 [(0, .ref (a_th 0)), (1, .int v1_0)] := hl
  unfold f_X8_withdraw at hf
  refine k_aload_n E hl 0 dX8_withdraw_0 rfl ?_
  refine k_iload_n E hl 1 dX8_withdraw_1 rfl ?_
  obtain ⟨cd_1, hg, hf⟩ := ob hf
  refine k_callXv (As := [.int v1_0]) (rest := []) (ws2 := fun u => (wMCo k a_th (a_in 0) (a_ou 0) (a_ru 0) (a_no 0) (a_fo 0) (a_rd 0) (a_pa 0) sv_th th_0 ++ wCourt k a_no no_0 ++ wPast k a_pa pp_0 pa_0) ++ poolW k pp_0 pa_0.2) (c_X8_needClaim n l k hx a_th a_in a_ou a_ru a_no a_fo a_rd a_pa sv_th th_0 no_0 v1_0 cd_1 hg) E vl_X8_217 dX8_withdraw_2 rfl [0, 1, 2, 3, 4, 5, 6, 7, 8, 9, 10, 11, 12] 6 0 hW hA hl rfl rfl rfl rfl ⟨by decide, by decide⟩ ⟨by decide, by decide⟩ (Nat.le_of_ble_eq_true rfl) rfl (fun _ => rfl) (fun _ => rfl) (fun cd9 u ce9 q9 H locs hp hW hce hcv hcls => ?_) (fun u H locs hp hW => ?_)
  · obtain ⟨hcd, hp⟩ := hp
    cases hp
    have hW : WD k A s.heap ((wMCo k a_th (a_in 0) (a_ou 0) (a_ru 0) (a_no 0) (a_fo 0) (a_rd 0) (a_pa 0) sv_th th_0 ++ wCourt k a_no no_0 ++ wPast k a_pa pp_0 pa_0) ++ poolW k pp_0 pa_0.2) H locs := hW
    have hf := oF hcd hf
    exact hout _ (no_0, pa_0, pp_0) _ _ _ _ _ _ _ _ _ ⟨hcd, (Option.some.inj hf).symm⟩ hW hce hcv hcls (by decide) (by decide)
  cases hp
  have hW : WD k A s.heap ((wMCo k a_th (a_in 0) (a_ou 0) (a_ru 0) (a_no 0) (a_fo 0) (a_rd 0) (a_pa 0) sv_th th_0 ++ wCourt k a_no no_0 ++ wPast k a_pa pp_0 pa_0) ++ poolW k pp_0 pa_0.2) H locs := hW
  have hf := oT rfl hf
  refine k_aload_n E hl 0 dX8_withdraw_5 rfl ?_
  refine gf_X8_31 E hW 0 rfl rfl dX8_withdraw_6 ?_
  refine k_iload_n E hl 1 dX8_withdraw_9 rfl ?_
  obtain ⟨r_2, hg, hf⟩ := ob hf
  refine k_callVi (As := [.int v1_0]) (rest := []) (ws2 := fun u => (wMCo k a_th (a_in 0) (a_ou 0) (a_ru 0) (a_no 0) (a_fo 0) (a_rd 0) (a_pa 0) sv_th th_0 ++ wCourt k a_no no_0 ++ wPast k a_pa pp_0 pa_0) ++ poolW k pp_0 pa_0.2) (c_X2_waits n l k a_no no_0 v1_0 r_2 hg) E vl_X8_298 dX8_withdraw_10 rfl [1, 2, 3, 4, 5, 6, 7, 8, 9, 10, 11, 12] 1 1 hW hA hl rfl rfl rfl rfl ⟨by decide, by decide⟩ ⟨by decide, by decide⟩ (Nat.le_of_ble_eq_true rfl) rfl (fun _ => rfl) (fun _ => rfl) (fun r u H locs hp hW => ?_)
  cases hp
  have hW : WD k A s.heap ((wMCo k a_th (a_in 0) (a_ou 0) (a_ru 0) (a_no 0) (a_fo 0) (a_rd 0) (a_pa 0) sv_th th_0 ++ wCourt k a_no no_0 ++ wPast k a_pa pp_0 pa_0) ++ poolW k pp_0 pa_0.2) H locs := hW
  refine lv_if_ne (tgt := 27) E.hx E.hb dX8_withdraw_13 (by decide) (fun hc => ?_) (fun hc => ?_)
  · have hf := oF hc hf
    refine k_aload_n E hl 0 dX8_withdraw_27 rfl ?_
    refine gf_X8_50 E hW 0 rfl rfl dX8_withdraw_28 ?_
    refine k_aload_n E hl 0 dX8_withdraw_31 rfl ?_
    refine gf_X8_31 E hW 0 rfl rfl dX8_withdraw_32 ?_
    obtain ⟨pa_3, hg, hf⟩ := ob hf
    refine k_callGv (As := [.ref (a_no 0)]) (rest := []) (ws2 := fun u => (wMCo k a_th (a_in 0) (a_ou 0) (a_ru 0) (a_no 0) (a_fo 0) (a_rd 0) (a_pa 0) sv_th th_0 ++ wCourt k a_no no_0 ++ wPast k a_pa u.2 (u.1)) ++ poolW k u.2 (u.1).2) (c_X3_keep n l k a_no a_pa pp_0 pa_0 no_0 pa_3 hg) E vl_X8_283 dX8_withdraw_35 rfl [1, 2, 3, 4, 5, 6, 7, 8, 9, 10, 11, 12, 13, 14] 2 13 hW hA hl rfl rfl rfl rfl ⟨by decide, by decide⟩ ⟨by decide, by decide⟩ (Nat.le_of_ble_eq_true rfl) rfl (fun _ => rfl) (fun _ => rfl) (fun u H locs hp hW => ?_)
    obtain ⟨u0, pp_4⟩ := u
    try dsimp only at hp
    cases hp
    have hW : WD k A s.heap ((wMCo k a_th (a_in 0) (a_ou 0) (a_ru 0) (a_no 0) (a_fo 0) (a_rd 0) (a_pa 0) sv_th th_0 ++ wCourt k a_no no_0 ++ wPast k a_pa pp_4 pa_3) ++ poolW k pp_4 pa_3.2) H locs := hW
    refine k_aload_n E hl 0 dX8_withdraw_38 rfl ?_
    refine gf_X8_31 E hW 0 rfl rfl dX8_withdraw_39 ?_
    refine gf_X8_222 E hW 1 rfl rfl dX8_withdraw_42 ?_
    refine k_iload_n E hl 1 dX8_withdraw_45 rfl ?_
    refine lv_iconst (v := (3 : Int32)) E.hx E.hb dX8_withdraw_46 ic_3 ?_
    refine lv_iconst (v := (3 : Int32)) E.hx E.hb dX8_withdraw_47 ic_3 ?_
    obtain ⟨y_5, hg, hf⟩ := ob hf
    obtain ⟨no_6, eno_6, hf⟩ := oL hf
    refine k_callVv (As := [.int v1_0, .int (3 : Int32), .int (3 : Int32)]) (rest := []) (ws2 := fun u => (wMCo k a_th (a_in 0) (a_ou 0) (a_ru 0) (a_no 0) (a_fo 0) (a_rd 0) (a_pa 0) sv_th th_0 ++ wCourt k a_no (sA no_0 13 (u)) ++ wPast k a_pa pp_4 pa_3) ++ poolW k pp_4 pa_3.2) (c_X6_set n l k (fun j => a_no (7 + j)) (7 : Int32) 420 (no_0.2.1 13) v1_0 (3 : Int32) (3 : Int32) y_5 hg) E vl_X8_303 dX8_withdraw_48 rfl [8, 9] 5 8 hW hA hl rfl rfl rfl rfl ⟨by decide, by decide⟩ ⟨by decide, by decide⟩ (Nat.le_of_ble_eq_true rfl) rfl (fun _ => rfl) (fun _ => rfl) (fun u H locs hp hW => ?_)
    cases hp
    have hW : WD k A s.heap ((wMCo k a_th (a_in 0) (a_ou 0) (a_ru 0) (a_no 0) (a_fo 0) (a_rd 0) (a_pa 0) sv_th th_0 ++ wCourt k a_no no_6 ++ wPast k a_pa pp_4 pa_3) ++ poolW k pp_4 pa_3.2) H locs := by rw [eno_6]; exact hW
    refine k_aload_n E hl 0 dX8_withdraw_51 rfl ?_
    refine gf_X8_31 E hW 0 rfl rfl dX8_withdraw_52 ?_
    refine gf_X8_222 E hW 1 rfl rfl dX8_withdraw_55 ?_
    refine k_iload_n E hl 1 dX8_withdraw_58 rfl ?_
    refine lv_iconst (v := (4 : Int32)) E.hx E.hb dX8_withdraw_59 ic_4 ?_
    obtain ⟨r_7, hg, hf⟩ := ob hf
    refine k_callVi (As := [.int v1_0, .int (4 : Int32)]) (rest := []) (ws2 := fun u => (wMCo k a_th (a_in 0) (a_ou 0) (a_ru 0) (a_no 0) (a_fo 0) (a_rd 0) (a_pa 0) sv_th th_0 ++ wCourt k a_no no_6 ++ wPast k a_pa pp_4 pa_3) ++ poolW k pp_4 pa_3.2) (c_X6_get n l k (fun j => a_no (7 + j)) (7 : Int32) 420 (no_6.2.1 13) v1_0 (4 : Int32) r_7 hg) E vl_X8_171 dX8_withdraw_60 rfl [8, 9] 5 8 hW hA hl rfl rfl rfl rfl ⟨by decide, by decide⟩ ⟨by decide, by decide⟩ (Nat.le_of_ble_eq_true rfl) rfl (fun _ => rfl) (fun _ => rfl) (fun r u H locs hp hW => ?_)
    cases hp
    have hW : WD k A s.heap ((wMCo k a_th (a_in 0) (a_ou 0) (a_ru 0) (a_no 0) (a_fo 0) (a_rd 0) (a_pa 0) sv_th th_0 ++ wCourt k a_no no_6 ++ wPast k a_pa pp_4 pa_3) ++ poolW k pp_4 pa_3.2) H locs := hW
    exact hret _ (no_6, pa_3, pp_4) _ _ _ _ _ _ hW (Option.some.inj hf).symm rfl (by decide) (by decide) dX8_withdraw_63
  · have hf := oT hc hf
    exact hthr 3 (no_0, pa_0, pp_0) _ _ _ _ _ _ _ _ _ _ _ xr_3 xt_301 ⟨by decide, (Option.some.inj hf).symm⟩ hW hl ⟨dX8_withdraw_16, dX8_withdraw_19, Or.inr ⟨dX8_withdraw_20, dX8_withdraw_23, dX8_withdraw_26⟩⟩ (by decide) (by decide)
def f_X8_giveBack (n : Nat) (sv_th : Value) (th_0 : OS) (no_0 : OS) (pa_0 : PS) (v1_0 : Int32) (v2_0 : Int32) : Option (OS × PS × Int32 × Nat) :=
  bnd (f_X8_needLoan n sv_th th_0 no_0 v1_0) (fun (cd_1 : Nat) =>
  if cd_1 = 0 then (
  if v2_0 < (1 : Int32) then (
  some (no_0, pa_0, (0 : Int32), 2)) else (
  bnd (f_X6_get n (8 : Int32) 640 (no_0.2.1 12) v1_0 (1 : Int32)) (fun (r_2 : Int32) =>
  if v2_0 ≤ r_2 then (
  bnd (f_X3_keep n pa_0 no_0) (fun (pa_3 : PS) =>
  bnd (f_X2_release n no_0 v1_0 v2_0) (fun (no_5 : OS) =>
  bnd (f_X6_get n (8 : Int32) 640 (no_5.2.1 12) v1_0 (1 : Int32)) (fun (r_6 : Int32) =>
  some (no_5, pa_3, r_6, 0))))) else (
  some (no_0, pa_0, (0 : Int32), 2))))) else (
  some (no_0, pa_0, (0 : Int32), cd_1)))
set_option maxHeartbeats 4000000 in
set_option maxRecDepth 100000 in
theorem c_X8_giveBack (n : Nat) (l : Launch) (k : KT) (hx : XH l k) (a_th : Nat → Nat) (a_in : Nat → Nat) (a_ou : Nat → Nat) (a_ru : Nat → Nat) (a_no : Nat → Nat) (a_fo : Nat → Nat) (a_rd : Nat → Nat) (a_pa : Nat → Nat) (pp_0 : Nat → Nat → Nat) (sv_th : Value) (th_0 : OS) (no_0 : OS) (pa_0 : PS) (v1_0 : Int32) (v2_0 : Int32) (res : (OS × PS × Int32 × Nat)) (hf : f_X8_giveBack n sv_th th_0 no_0 pa_0 v1_0 v2_0 = some res) : CX l k yX8_giveBack cX8_giveBack 3 (some .int) 7 14 2006 222 [.ref (a_th 0), .int v1_0, .int v2_0] ((wMCo k a_th (a_in 0) (a_ou 0) (a_ru 0) (a_no 0) (a_fo 0) (a_rd 0) (a_pa 0) sv_th th_0 ++ wCourt k a_no no_0 ++ wPast k a_pa pp_0 pa_0) ++ poolW k pp_0 pa_0.2) (Qi k (fun u : (OS) × (PS) × (Nat → Nat → Nat) => (wMCo k a_th (a_in 0) (a_ou 0) (a_ru 0) (a_no 0) (a_fo 0) (a_rd 0) (a_pa 0) sv_th th_0 ++ wCourt k a_no (u.1) ++ wPast k a_pa (u.2.2) (u.2.1)) ++ poolW k (u.2.2) (u.2.1).2) (fun (r : Int32) (u : (OS) × (PS) × (Nat → Nat → Nat)) => res = (u.1, u.2.1, r, 0))) (Xq k (fun u : (OS) × (PS) × (Nat → Nat → Nat) => (wMCo k a_th (a_in 0) (a_ou 0) (a_ru 0) (a_no 0) (a_fo 0) (a_rd 0) (a_pa 0) sv_th th_0 ++ wCourt k a_no (u.1) ++ wPast k a_pa (u.2.2) (u.2.1)) ++ poolW k (u.2.2) (u.2.1).2) (fun (cd : Nat) (u : (OS) × (PS) × (Nat → Nat → Nat)) => cd ≠ 0 ∧ res = (u.1, u.2.1, (0 : Int32), cd))) := by
  refine CX.ofI hx rfl (by decide) (Nat.le_of_ble_eq_true rfl) (by decide) (by decide) (fun p e s m args below meth c A Q E hnm hW hA hret hout hthr ls hl => ?_)
  have hl : lv_has ls 3 [(0, .ref (a_th 0)), (1, .int v1_0), (2, .int v2_0)] := hl
  unfold f_X8_giveBack at hf
  refine k_aload_n E hl 0 dX8_giveBack_0 rfl ?_
  refine k_iload_n E hl 1 dX8_giveBack_1 rfl ?_
  obtain ⟨cd_1, hg, hf⟩ := ob hf
  refine k_callXv (As := [.int v1_0]) (rest := []) (ws2 := fun u => (wMCo k a_th (a_in 0) (a_ou 0) (a_ru 0) (a_no 0) (a_fo 0) (a_rd 0) (a_pa 0) sv_th th_0 ++ wCourt k a_no no_0 ++ wPast k a_pa pp_0 pa_0) ++ poolW k pp_0 pa_0.2) (c_X8_needLoan n l k hx a_th a_in a_ou a_ru a_no a_fo a_rd a_pa sv_th th_0 no_0 v1_0 cd_1 hg) E vl_X8_186 dX8_giveBack_2 rfl [0, 1, 2, 3, 4, 5, 6, 7, 8, 9, 10, 11, 12] 6 0 hW hA hl rfl rfl rfl rfl ⟨by decide, by decide⟩ ⟨by decide, by decide⟩ (Nat.le_of_ble_eq_true rfl) rfl (fun _ => rfl) (fun _ => rfl) (fun cd9 u ce9 q9 H locs hp hW hce hcv hcls => ?_) (fun u H locs hp hW => ?_)
  · obtain ⟨hcd, hp⟩ := hp
    cases hp
    have hW : WD k A s.heap ((wMCo k a_th (a_in 0) (a_ou 0) (a_ru 0) (a_no 0) (a_fo 0) (a_rd 0) (a_pa 0) sv_th th_0 ++ wCourt k a_no no_0 ++ wPast k a_pa pp_0 pa_0) ++ poolW k pp_0 pa_0.2) H locs := hW
    have hf := oF hcd hf
    exact hout _ (no_0, pa_0, pp_0) _ _ _ _ _ _ _ _ _ ⟨hcd, (Option.some.inj hf).symm⟩ hW hce hcv hcls (by decide) (by decide)
  cases hp
  have hW : WD k A s.heap ((wMCo k a_th (a_in 0) (a_ou 0) (a_ru 0) (a_no 0) (a_fo 0) (a_rd 0) (a_pa 0) sv_th th_0 ++ wCourt k a_no no_0 ++ wPast k a_pa pp_0 pa_0) ++ poolW k pp_0 pa_0.2) H locs := hW
  have hf := oT rfl hf
  refine k_iload_n E hl 2 dX8_giveBack_5 rfl ?_
  refine lv_iconst (v := (1 : Int32)) E.hx E.hb dX8_giveBack_6 ic_1 ?_
  refine lv_icmp_lt (tgt := 26) E.hx E.hb dX8_giveBack_7 (by decide) (fun hc => ?_) (fun hc => ?_)
  · have hf := oT hc hf
    exact hthr 2 (no_0, pa_0, pp_0) _ _ _ _ _ _ _ _ _ _ _ xr_2 xt_307 ⟨by decide, (Option.some.inj hf).symm⟩ hW hl ⟨dX8_giveBack_26, dX8_giveBack_29, Or.inr ⟨dX8_giveBack_30, dX8_giveBack_33, dX8_giveBack_36⟩⟩ (by decide) (by decide)
  · have hf := oF hc hf
    refine k_iload_n E hl 2 dX8_giveBack_10 rfl ?_
    refine k_aload_n E hl 0 dX8_giveBack_11 rfl ?_
    refine gf_X8_31 E hW 0 rfl rfl dX8_giveBack_12 ?_
    refine gf_X8_195 E hW 1 rfl rfl dX8_giveBack_15 ?_
    refine k_iload_n E hl 1 dX8_giveBack_18 rfl ?_
    refine lv_iconst (v := (1 : Int32)) E.hx E.hb dX8_giveBack_19 ic_1 ?_
    obtain ⟨r_2, hg, hf⟩ := ob hf
    refine k_callVi (As := [.int v1_0, .int (1 : Int32)]) (rest := [.int v2_0]) (ws2 := fun u => (wMCo k a_th (a_in 0) (a_ou 0) (a_ru 0) (a_no 0) (a_fo 0) (a_rd 0) (a_pa 0) sv_th th_0 ++ wCourt k a_no no_0 ++ wPast k a_pa pp_0 pa_0) ++ poolW k pp_0 pa_0.2) (c_X6_get n l k (fun j => a_no (5 + j)) (8 : Int32) 640 (no_0.2.1 12) v1_0 (1 : Int32) r_2 hg) E vl_X8_171 dX8_giveBack_20 rfl [6, 7] 5 6 hW hA hl rfl rfl rfl rfl ⟨by decide, by decide⟩ ⟨by decide, by decide⟩ (Nat.le_of_ble_eq_true rfl) rfl (fun _ => rfl) (fun _ => rfl) (fun r u H locs hp hW => ?_)
    cases hp
    have hW : WD k A s.heap ((wMCo k a_th (a_in 0) (a_ou 0) (a_ru 0) (a_no 0) (a_fo 0) (a_rd 0) (a_pa 0) sv_th th_0 ++ wCourt k a_no no_0 ++ wPast k a_pa pp_0 pa_0) ++ poolW k pp_0 pa_0.2) H locs := hW
    refine lv_icmp_le (tgt := 37) E.hx E.hb dX8_giveBack_23 (by decide) (fun hc => ?_) (fun hc => ?_)
    · have hf := oT hc hf
      refine k_aload_n E hl 0 dX8_giveBack_37 rfl ?_
      refine gf_X8_50 E hW 0 rfl rfl dX8_giveBack_38 ?_
      refine k_aload_n E hl 0 dX8_giveBack_41 rfl ?_
      refine gf_X8_31 E hW 0 rfl rfl dX8_giveBack_42 ?_
      obtain ⟨pa_3, hg, hf⟩ := ob hf
      refine k_callGv (As := [.ref (a_no 0)]) (rest := []) (ws2 := fun u => (wMCo k a_th (a_in 0) (a_ou 0) (a_ru 0) (a_no 0) (a_fo 0) (a_rd 0) (a_pa 0) sv_th th_0 ++ wCourt k a_no no_0 ++ wPast k a_pa u.2 (u.1)) ++ poolW k u.2 (u.1).2) (c_X3_keep n l k a_no a_pa pp_0 pa_0 no_0 pa_3 hg) E vl_X8_283 dX8_giveBack_45 rfl [1, 2, 3, 4, 5, 6, 7, 8, 9, 10, 11, 12, 13, 14] 2 13 hW hA hl rfl rfl rfl rfl ⟨by decide, by decide⟩ ⟨by decide, by decide⟩ (Nat.le_of_ble_eq_true rfl) rfl (fun _ => rfl) (fun _ => rfl) (fun u H locs hp hW => ?_)
      obtain ⟨u0, pp_4⟩ := u
      try dsimp only at hp
      cases hp
      have hW : WD k A s.heap ((wMCo k a_th (a_in 0) (a_ou 0) (a_ru 0) (a_no 0) (a_fo 0) (a_rd 0) (a_pa 0) sv_th th_0 ++ wCourt k a_no no_0 ++ wPast k a_pa pp_4 pa_3) ++ poolW k pp_4 pa_3.2) H locs := hW
      refine k_aload_n E hl 0 dX8_giveBack_48 rfl ?_
      refine gf_X8_31 E hW 0 rfl rfl dX8_giveBack_49 ?_
      refine k_iload_n E hl 1 dX8_giveBack_52 rfl ?_
      refine k_iload_n E hl 2 dX8_giveBack_53 rfl ?_
      obtain ⟨no_5, hg, hf⟩ := ob hf
      refine k_callVv (As := [.int v1_0, .int v2_0]) (rest := []) (ws2 := fun u => (wMCo k a_th (a_in 0) (a_ou 0) (a_ru 0) (a_no 0) (a_fo 0) (a_rd 0) (a_pa 0) sv_th th_0 ++ wCourt k a_no (u) ++ wPast k a_pa pp_4 pa_3) ++ poolW k pp_4 pa_3.2) (c_X2_release n l k a_no no_0 v1_0 v2_0 no_5 hg) E vl_X8_309 dX8_giveBack_54 rfl [1, 2, 3, 4, 5, 6, 7, 8, 9, 10, 11, 12] 1 1 hW hA hl rfl rfl rfl rfl ⟨by decide, by decide⟩ ⟨by decide, by decide⟩ (Nat.le_of_ble_eq_true rfl) rfl (fun _ => rfl) (fun _ => rfl) (fun u H locs hp hW => ?_)
      cases hp
      have hW : WD k A s.heap ((wMCo k a_th (a_in 0) (a_ou 0) (a_ru 0) (a_no 0) (a_fo 0) (a_rd 0) (a_pa 0) sv_th th_0 ++ wCourt k a_no no_5 ++ wPast k a_pa pp_4 pa_3) ++ poolW k pp_4 pa_3.2) H locs := hW
      refine k_aload_n E hl 0 dX8_giveBack_57 rfl ?_
      refine gf_X8_31 E hW 0 rfl rfl dX8_giveBack_58 ?_
      refine gf_X8_195 E hW 1 rfl rfl dX8_giveBack_61 ?_
      refine k_iload_n E hl 1 dX8_giveBack_64 rfl ?_
      refine lv_iconst (v := (1 : Int32)) E.hx E.hb dX8_giveBack_65 ic_1 ?_
      obtain ⟨r_6, hg, hf⟩ := ob hf
      refine k_callVi (As := [.int v1_0, .int (1 : Int32)]) (rest := []) (ws2 := fun u => (wMCo k a_th (a_in 0) (a_ou 0) (a_ru 0) (a_no 0) (a_fo 0) (a_rd 0) (a_pa 0) sv_th th_0 ++ wCourt k a_no no_5 ++ wPast k a_pa pp_4 pa_3) ++ poolW k pp_4 pa_3.2) (c_X6_get n l k (fun j => a_no (5 + j)) (8 : Int32) 640 (no_5.2.1 12) v1_0 (1 : Int32) r_6 hg) E vl_X8_171 dX8_giveBack_66 rfl [6, 7] 5 6 hW hA hl rfl rfl rfl rfl ⟨by decide, by decide⟩ ⟨by decide, by decide⟩ (Nat.le_of_ble_eq_true rfl) rfl (fun _ => rfl) (fun _ => rfl) (fun r u H locs hp hW => ?_)
      cases hp
      have hW : WD k A s.heap ((wMCo k a_th (a_in 0) (a_ou 0) (a_ru 0) (a_no 0) (a_fo 0) (a_rd 0) (a_pa 0) sv_th th_0 ++ wCourt k a_no no_5 ++ wPast k a_pa pp_4 pa_3) ++ poolW k pp_4 pa_3.2) H locs := hW
      exact hret _ (no_5, pa_3, pp_4) _ _ _ _ _ _ hW (Option.some.inj hf).symm rfl (by decide) (by decide) dX8_giveBack_69
    · have hf := oF hc hf
      exact hthr 2 (no_0, pa_0, pp_0) _ _ _ _ _ _ _ _ _ _ _ xr_2 xt_307 ⟨by decide, (Option.some.inj hf).symm⟩ hW hl ⟨dX8_giveBack_26, dX8_giveBack_29, Or.inr ⟨dX8_giveBack_30, dX8_giveBack_33, dX8_giveBack_36⟩⟩ (by decide) (by decide)
def f_X8_renew (n : Nat) (sv_th : Value) (th_0 : OS) (no_0 : OS) (pa_0 : PS) (v1_0 : Int32) (v2_0 : Int32) : Option (OS × PS × Int32 × Nat) :=
  bnd (f_X8_needLoan n sv_th th_0 no_0 v1_0) (fun (cd_1 : Nat) =>
  if cd_1 = 0 then (
  if v2_0 < (1 : Int32) then (
  some (no_0, pa_0, (0 : Int32), 2)) else (
  if v2_0 ≤ (99 : Int32) then (
  bnd (f_X2_isRenewable n no_0 v1_0) (fun (r_2 : Int32) =>
  if r_2 = 0 then (
  some (no_0, pa_0, (0 : Int32), 3)) else (
  bnd (f_X3_keep n pa_0 no_0) (fun (pa_3 : PS) =>
  bnd (f_X6_add n (8 : Int32) 640 (no_0.2.1 12) v1_0 (2 : Int32) v2_0) (fun (y_5 : Nat → Int32) =>
  Let (sA no_0 12 y_5) (fun no_6 : OS =>
  bnd (f_X6_get n (8 : Int32) 640 (no_6.2.1 12) v1_0 (2 : Int32)) (fun (r_7 : Int32) =>
  some (no_6, pa_3, r_7, 0)))))))) else (
  some (no_0, pa_0, (0 : Int32), 2)))) else (
  some (no_0, pa_0, (0 : Int32), cd_1)))
set_option maxHeartbeats 4000000 in
set_option maxRecDepth 100000 in
theorem c_X8_renew (n : Nat) (l : Launch) (k : KT) (hx : XH l k) (a_th : Nat → Nat) (a_in : Nat → Nat) (a_ou : Nat → Nat) (a_ru : Nat → Nat) (a_no : Nat → Nat) (a_fo : Nat → Nat) (a_rd : Nat → Nat) (a_pa : Nat → Nat) (pp_0 : Nat → Nat → Nat) (sv_th : Value) (th_0 : OS) (no_0 : OS) (pa_0 : PS) (v1_0 : Int32) (v2_0 : Int32) (res : (OS × PS × Int32 × Nat)) (hf : f_X8_renew n sv_th th_0 no_0 pa_0 v1_0 v2_0 = some res) : CX l k yX8_renew cX8_renew 3 (some .int) 7 14 2006 222 [.ref (a_th 0), .int v1_0, .int v2_0] ((wMCo k a_th (a_in 0) (a_ou 0) (a_ru 0) (a_no 0) (a_fo 0) (a_rd 0) (a_pa 0) sv_th th_0 ++ wCourt k a_no no_0 ++ wPast k a_pa pp_0 pa_0) ++ poolW k pp_0 pa_0.2) (Qi k (fun u : (OS) × (PS) × (Nat → Nat → Nat) => (wMCo k a_th (a_in 0) (a_ou 0) (a_ru 0) (a_no 0) (a_fo 0) (a_rd 0) (a_pa 0) sv_th th_0 ++ wCourt k a_no (u.1) ++ wPast k a_pa (u.2.2) (u.2.1)) ++ poolW k (u.2.2) (u.2.1).2) (fun (r : Int32) (u : (OS) × (PS) × (Nat → Nat → Nat)) => res = (u.1, u.2.1, r, 0))) (Xq k (fun u : (OS) × (PS) × (Nat → Nat → Nat) => (wMCo k a_th (a_in 0) (a_ou 0) (a_ru 0) (a_no 0) (a_fo 0) (a_rd 0) (a_pa 0) sv_th th_0 ++ wCourt k a_no (u.1) ++ wPast k a_pa (u.2.2) (u.2.1)) ++ poolW k (u.2.2) (u.2.1).2) (fun (cd : Nat) (u : (OS) × (PS) × (Nat → Nat → Nat)) => cd ≠ 0 ∧ res = (u.1, u.2.1, (0 : Int32), cd))) := by
  refine CX.ofI hx rfl (by decide) (Nat.le_of_ble_eq_true rfl) (by decide) (by decide) (fun p e s m args below meth c A Q E hnm hW hA hret hout hthr ls hl => ?_)
  have hl : lv_has ls 3 [(0, .ref (a_th 0)), (1, .int v1_0), (2, .int v2_0)] := hl
  unfold f_X8_renew at hf
  refine k_aload_n E hl 0 dX8_renew_0 rfl ?_
  refine k_iload_n E hl 1 dX8_renew_1 rfl ?_
  obtain ⟨cd_1, hg, hf⟩ := ob hf
  refine k_callXv (As := [.int v1_0]) (rest := []) (ws2 := fun u => (wMCo k a_th (a_in 0) (a_ou 0) (a_ru 0) (a_no 0) (a_fo 0) (a_rd 0) (a_pa 0) sv_th th_0 ++ wCourt k a_no no_0 ++ wPast k a_pa pp_0 pa_0) ++ poolW k pp_0 pa_0.2) (c_X8_needLoan n l k hx a_th a_in a_ou a_ru a_no a_fo a_rd a_pa sv_th th_0 no_0 v1_0 cd_1 hg) E vl_X8_186 dX8_renew_2 rfl [0, 1, 2, 3, 4, 5, 6, 7, 8, 9, 10, 11, 12] 6 0 hW hA hl rfl rfl rfl rfl ⟨by decide, by decide⟩ ⟨by decide, by decide⟩ (Nat.le_of_ble_eq_true rfl) rfl (fun _ => rfl) (fun _ => rfl) (fun cd9 u ce9 q9 H locs hp hW hce hcv hcls => ?_) (fun u H locs hp hW => ?_)
  · obtain ⟨hcd, hp⟩ := hp
    cases hp
    have hW : WD k A s.heap ((wMCo k a_th (a_in 0) (a_ou 0) (a_ru 0) (a_no 0) (a_fo 0) (a_rd 0) (a_pa 0) sv_th th_0 ++ wCourt k a_no no_0 ++ wPast k a_pa pp_0 pa_0) ++ poolW k pp_0 pa_0.2) H locs := hW
    have hf := oF hcd hf
    exact hout _ (no_0, pa_0, pp_0) _ _ _ _ _ _ _ _ _ ⟨hcd, (Option.some.inj hf).symm⟩ hW hce hcv hcls (by decide) (by decide)
  cases hp
  have hW : WD k A s.heap ((wMCo k a_th (a_in 0) (a_ou 0) (a_ru 0) (a_no 0) (a_fo 0) (a_rd 0) (a_pa 0) sv_th th_0 ++ wCourt k a_no no_0 ++ wPast k a_pa pp_0 pa_0) ++ poolW k pp_0 pa_0.2) H locs := hW
  have hf := oT rfl hf
  refine k_iload_n E hl 2 dX8_renew_5 rfl ?_
  refine lv_iconst (v := (1 : Int32)) E.hx E.hb dX8_renew_6 ic_1 ?_
  refine lv_icmp_lt (tgt := 16) E.hx E.hb dX8_renew_7 (by decide) (fun hc => ?_) (fun hc => ?_)
  · have hf := oT hc hf
    exact hthr 2 (no_0, pa_0, pp_0) _ _ _ _ _ _ _ _ _ _ _ xr_2 xt_313 ⟨by decide, (Option.some.inj hf).symm⟩ hW hl ⟨dX8_renew_16, dX8_renew_19, Or.inr ⟨dX8_renew_20, dX8_renew_23, dX8_renew_26⟩⟩ (by decide) (by decide)
  · have hf := oF hc hf
    refine k_iload_n E hl 2 dX8_renew_10 rfl ?_
    refine lv_bipush (v := (99 : Int32)) E.hx E.hb dX8_renew_11 bp_99 ?_
    refine lv_icmp_le (tgt := 27) E.hx E.hb dX8_renew_13 (by decide) (fun hc => ?_) (fun hc => ?_)
    · have hf := oT hc hf
      refine k_aload_n E hl 0 dX8_renew_27 rfl ?_
      refine gf_X8_31 E hW 0 rfl rfl dX8_renew_28 ?_
      refine k_iload_n E hl 1 dX8_renew_31 rfl ?_
      obtain ⟨r_2, hg, hf⟩ := ob hf
      refine k_callVi (As := [.int v1_0]) (rest := []) (ws2 := fun u => (wMCo k a_th (a_in 0) (a_ou 0) (a_ru 0) (a_no 0) (a_fo 0) (a_rd 0) (a_pa 0) sv_th th_0 ++ wCourt k a_no no_0 ++ wPast k a_pa pp_0 pa_0) ++ poolW k pp_0 pa_0.2) (c_X2_isRenewable n l k a_no no_0 v1_0 r_2 hg) E vl_X8_315 dX8_renew_32 rfl [1, 2, 3, 4, 5, 6, 7, 8, 9, 10, 11, 12] 1 1 hW hA hl rfl rfl rfl rfl ⟨by decide, by decide⟩ ⟨by decide, by decide⟩ (Nat.le_of_ble_eq_true rfl) rfl (fun _ => rfl) (fun _ => rfl) (fun r u H locs hp hW => ?_)
      cases hp
      have hW : WD k A s.heap ((wMCo k a_th (a_in 0) (a_ou 0) (a_ru 0) (a_no 0) (a_fo 0) (a_rd 0) (a_pa 0) sv_th th_0 ++ wCourt k a_no no_0 ++ wPast k a_pa pp_0 pa_0) ++ poolW k pp_0 pa_0.2) H locs := hW
      refine lv_if_ne (tgt := 49) E.hx E.hb dX8_renew_35 (by decide) (fun hc => ?_) (fun hc => ?_)
      · have hf := oF hc hf
        refine k_aload_n E hl 0 dX8_renew_49 rfl ?_
        refine gf_X8_50 E hW 0 rfl rfl dX8_renew_50 ?_
        refine k_aload_n E hl 0 dX8_renew_53 rfl ?_
        refine gf_X8_31 E hW 0 rfl rfl dX8_renew_54 ?_
        obtain ⟨pa_3, hg, hf⟩ := ob hf
        refine k_callGv (As := [.ref (a_no 0)]) (rest := []) (ws2 := fun u => (wMCo k a_th (a_in 0) (a_ou 0) (a_ru 0) (a_no 0) (a_fo 0) (a_rd 0) (a_pa 0) sv_th th_0 ++ wCourt k a_no no_0 ++ wPast k a_pa u.2 (u.1)) ++ poolW k u.2 (u.1).2) (c_X3_keep n l k a_no a_pa pp_0 pa_0 no_0 pa_3 hg) E vl_X8_283 dX8_renew_57 rfl [1, 2, 3, 4, 5, 6, 7, 8, 9, 10, 11, 12, 13, 14] 2 13 hW hA hl rfl rfl rfl rfl ⟨by decide, by decide⟩ ⟨by decide, by decide⟩ (Nat.le_of_ble_eq_true rfl) rfl (fun _ => rfl) (fun _ => rfl) (fun u H locs hp hW => ?_)
        obtain ⟨u0, pp_4⟩ := u
        try dsimp only at hp
        cases hp
        have hW : WD k A s.heap ((wMCo k a_th (a_in 0) (a_ou 0) (a_ru 0) (a_no 0) (a_fo 0) (a_rd 0) (a_pa 0) sv_th th_0 ++ wCourt k a_no no_0 ++ wPast k a_pa pp_4 pa_3) ++ poolW k pp_4 pa_3.2) H locs := hW
        refine k_aload_n E hl 0 dX8_renew_60 rfl ?_
        refine gf_X8_31 E hW 0 rfl rfl dX8_renew_61 ?_
        refine gf_X8_195 E hW 1 rfl rfl dX8_renew_64 ?_
        refine k_iload_n E hl 1 dX8_renew_67 rfl ?_
        refine lv_iconst (v := (2 : Int32)) E.hx E.hb dX8_renew_68 ic_2 ?_
        refine k_iload_n E hl 2 dX8_renew_69 rfl ?_
        obtain ⟨y_5, hg, hf⟩ := ob hf
        obtain ⟨no_6, eno_6, hf⟩ := oL hf
        refine k_callVv (As := [.int v1_0, .int (2 : Int32), .int v2_0]) (rest := []) (ws2 := fun u => (wMCo k a_th (a_in 0) (a_ou 0) (a_ru 0) (a_no 0) (a_fo 0) (a_rd 0) (a_pa 0) sv_th th_0 ++ wCourt k a_no (sA no_0 12 (u)) ++ wPast k a_pa pp_4 pa_3) ++ poolW k pp_4 pa_3.2) (c_X6_add n l k (fun j => a_no (5 + j)) (8 : Int32) 640 (no_0.2.1 12) v1_0 (2 : Int32) v2_0 y_5 hg) E vl_X8_320 dX8_renew_70 rfl [6, 7] 5 6 hW hA hl rfl rfl rfl rfl ⟨by decide, by decide⟩ ⟨by decide, by decide⟩ (Nat.le_of_ble_eq_true rfl) rfl (fun _ => rfl) (fun _ => rfl) (fun u H locs hp hW => ?_)
        cases hp
        have hW : WD k A s.heap ((wMCo k a_th (a_in 0) (a_ou 0) (a_ru 0) (a_no 0) (a_fo 0) (a_rd 0) (a_pa 0) sv_th th_0 ++ wCourt k a_no no_6 ++ wPast k a_pa pp_4 pa_3) ++ poolW k pp_4 pa_3.2) H locs := by rw [eno_6]; exact hW
        refine k_aload_n E hl 0 dX8_renew_73 rfl ?_
        refine gf_X8_31 E hW 0 rfl rfl dX8_renew_74 ?_
        refine gf_X8_195 E hW 1 rfl rfl dX8_renew_77 ?_
        refine k_iload_n E hl 1 dX8_renew_80 rfl ?_
        refine lv_iconst (v := (2 : Int32)) E.hx E.hb dX8_renew_81 ic_2 ?_
        obtain ⟨r_7, hg, hf⟩ := ob hf
        refine k_callVi (As := [.int v1_0, .int (2 : Int32)]) (rest := []) (ws2 := fun u => (wMCo k a_th (a_in 0) (a_ou 0) (a_ru 0) (a_no 0) (a_fo 0) (a_rd 0) (a_pa 0) sv_th th_0 ++ wCourt k a_no no_6 ++ wPast k a_pa pp_4 pa_3) ++ poolW k pp_4 pa_3.2) (c_X6_get n l k (fun j => a_no (5 + j)) (8 : Int32) 640 (no_6.2.1 12) v1_0 (2 : Int32) r_7 hg) E vl_X8_171 dX8_renew_82 rfl [6, 7] 5 6 hW hA hl rfl rfl rfl rfl ⟨by decide, by decide⟩ ⟨by decide, by decide⟩ (Nat.le_of_ble_eq_true rfl) rfl (fun _ => rfl) (fun _ => rfl) (fun r u H locs hp hW => ?_)
        cases hp
        have hW : WD k A s.heap ((wMCo k a_th (a_in 0) (a_ou 0) (a_ru 0) (a_no 0) (a_fo 0) (a_rd 0) (a_pa 0) sv_th th_0 ++ wCourt k a_no no_6 ++ wPast k a_pa pp_4 pa_3) ++ poolW k pp_4 pa_3.2) H locs := hW
        exact hret _ (no_6, pa_3, pp_4) _ _ _ _ _ _ hW (Option.some.inj hf).symm rfl (by decide) (by decide) dX8_renew_85
      · have hf := oT hc hf
        exact hthr 3 (no_0, pa_0, pp_0) _ _ _ _ _ _ _ _ _ _ _ xr_3 xt_318 ⟨by decide, (Option.some.inj hf).symm⟩ hW hl ⟨dX8_renew_38, dX8_renew_41, Or.inr ⟨dX8_renew_42, dX8_renew_45, dX8_renew_48⟩⟩ (by decide) (by decide)
    · have hf := oF hc hf
      exact hthr 2 (no_0, pa_0, pp_0) _ _ _ _ _ _ _ _ _ _ _ xr_2 xt_313 ⟨by decide, (Option.some.inj hf).symm⟩ hW hl ⟨dX8_renew_16, dX8_renew_19, Or.inr ⟨dX8_renew_20, dX8_renew_23, dX8_renew_26⟩⟩ (by decide) (by decide)
def f_X8_stall (n : Nat) (sv_th : Value) (th_0 : OS) (ru_0 : OS) (no_0 : OS) (pa_0 : PS) (v1_0 : Int32) (v2_0 : Int32) : Option (OS × PS × Int32 × Nat) :=
  bnd (f_X8_needProcess n sv_th th_0 ru_0 v1_0) (fun (cd_1 : Nat) =>
  if cd_1 = 0 then (
  if v2_0 < 0 then (
  some (no_0, pa_0, (0 : Int32), 2)) else (
  if v2_0 ≤ (99 : Int32) then (
  bnd (f_X3_keep n pa_0 no_0) (fun (pa_2 : PS) =>
  bnd (f_X6_get n (5 : Int32) 40 (no_0.2.1 11) v1_0 (2 : Int32)) (fun (r_4 : Int32) =>
  bnd (f_X6_set n (5 : Int32) 40 (no_0.2.1 11) v1_0 (2 : Int32) v2_0) (fun (y_5 : Nat → Int32) =>
  Let (sA no_0 11 y_5) (fun no_6 : OS =>
  some (no_6, pa_2, r_4, 0)))))) else (
  some (no_0, pa_0, (0 : Int32), 2)))) else (
  some (no_0, pa_0, (0 : Int32), cd_1)))
set_option maxHeartbeats 4000000 in
set_option maxRecDepth 100000 in
theorem c_X8_stall (n : Nat) (l : Launch) (k : KT) (hx : XH l k) (a_th : Nat → Nat) (a_in : Nat → Nat) (a_ou : Nat → Nat) (a_ru : Nat → Nat) (a_no : Nat → Nat) (a_fo : Nat → Nat) (a_rd : Nat → Nat) (a_pa : Nat → Nat) (pp_0 : Nat → Nat → Nat) (sv_th : Value) (th_0 : OS) (ru_0 : OS) (no_0 : OS) (pa_0 : PS) (v1_0 : Int32) (v2_0 : Int32) (res : (OS × PS × Int32 × Nat)) (hf : f_X8_stall n sv_th th_0 ru_0 no_0 pa_0 v1_0 v2_0 = some res) : CX l k yX8_stall cX8_stall 4 (some .int) 7 14 2006 222 [.ref (a_th 0), .int v1_0, .int v2_0] ((wMCo k a_th (a_in 0) (a_ou 0) (a_ru 0) (a_no 0) (a_fo 0) (a_rd 0) (a_pa 0) sv_th th_0 ++ wRules k a_ru ru_0 ++ wCourt k a_no no_0 ++ wPast k a_pa pp_0 pa_0) ++ poolW k pp_0 pa_0.2) (Qi k (fun u : (OS) × (PS) × (Nat → Nat → Nat) => (wMCo k a_th (a_in 0) (a_ou 0) (a_ru 0) (a_no 0) (a_fo 0) (a_rd 0) (a_pa 0) sv_th th_0 ++ wRules k a_ru ru_0 ++ wCourt k a_no (u.1) ++ wPast k a_pa (u.2.2) (u.2.1)) ++ poolW k (u.2.2) (u.2.1).2) (fun (r : Int32) (u : (OS) × (PS) × (Nat → Nat → Nat)) => res = (u.1, u.2.1, r, 0))) (Xq k (fun u : (OS) × (PS) × (Nat → Nat → Nat) => (wMCo k a_th (a_in 0) (a_ou 0) (a_ru 0) (a_no 0) (a_fo 0) (a_rd 0) (a_pa 0) sv_th th_0 ++ wRules k a_ru ru_0 ++ wCourt k a_no (u.1) ++ wPast k a_pa (u.2.2) (u.2.1)) ++ poolW k (u.2.2) (u.2.1).2) (fun (cd : Nat) (u : (OS) × (PS) × (Nat → Nat → Nat)) => cd ≠ 0 ∧ res = (u.1, u.2.1, (0 : Int32), cd))) := by
  refine CX.ofI hx rfl (by decide) (Nat.le_of_ble_eq_true rfl) (by decide) (by decide) (fun p e s m args below meth c A Q E hnm hW hA hret hout hthr ls hl => ?_)
  have hl : lv_has ls 4 [(0, .ref (a_th 0)), (1, .int v1_0), (2, .int v2_0)] := hl
  unfold f_X8_stall at hf
  refine k_aload_n E hl 0 dX8_stall_0 rfl ?_
  refine k_iload_n E hl 1 dX8_stall_1 rfl ?_
  obtain ⟨cd_1, hg, hf⟩ := ob hf
  refine k_callXv (As := [.int v1_0]) (rest := []) (ws2 := fun u => (wMCo k a_th (a_in 0) (a_ou 0) (a_ru 0) (a_no 0) (a_fo 0) (a_rd 0) (a_pa 0) sv_th th_0 ++ wRules k a_ru ru_0 ++ wCourt k a_no no_0 ++ wPast k a_pa pp_0 pa_0) ++ poolW k pp_0 pa_0.2) (c_X8_needProcess n l k hx a_th a_in a_ou a_ru a_no a_fo a_rd a_pa sv_th th_0 ru_0 v1_0 cd_1 hg) E vl_X8_165 dX8_stall_2 rfl [0, 1, 2, 3] 6 0 hW hA hl rfl rfl rfl rfl ⟨by decide, by decide⟩ ⟨by decide, by decide⟩ (Nat.le_of_ble_eq_true rfl) rfl (fun _ => rfl) (fun _ => rfl) (fun cd9 u ce9 q9 H locs hp hW hce hcv hcls => ?_) (fun u H locs hp hW => ?_)
  · obtain ⟨hcd, hp⟩ := hp
    cases hp
    have hW : WD k A s.heap ((wMCo k a_th (a_in 0) (a_ou 0) (a_ru 0) (a_no 0) (a_fo 0) (a_rd 0) (a_pa 0) sv_th th_0 ++ wRules k a_ru ru_0 ++ wCourt k a_no no_0 ++ wPast k a_pa pp_0 pa_0) ++ poolW k pp_0 pa_0.2) H locs := hW
    have hf := oF hcd hf
    exact hout _ (no_0, pa_0, pp_0) _ _ _ _ _ _ _ _ _ ⟨hcd, (Option.some.inj hf).symm⟩ hW hce hcv hcls (by decide) (by decide)
  cases hp
  have hW : WD k A s.heap ((wMCo k a_th (a_in 0) (a_ou 0) (a_ru 0) (a_no 0) (a_fo 0) (a_rd 0) (a_pa 0) sv_th th_0 ++ wRules k a_ru ru_0 ++ wCourt k a_no no_0 ++ wPast k a_pa pp_0 pa_0) ++ poolW k pp_0 pa_0.2) H locs := hW
  have hf := oT rfl hf
  refine k_iload_n E hl 2 dX8_stall_5 rfl ?_
  refine lv_if_lt (tgt := 15) E.hx E.hb dX8_stall_6 (by decide) (fun hc => ?_) (fun hc => ?_)
  · have hf := oT hc hf
    exact hthr 2 (no_0, pa_0, pp_0) _ _ _ _ _ _ _ _ _ _ _ xr_2 xt_313 ⟨by decide, (Option.some.inj hf).symm⟩ hW hl ⟨dX8_stall_15, dX8_stall_18, Or.inr ⟨dX8_stall_19, dX8_stall_22, dX8_stall_25⟩⟩ (by decide) (by decide)
  · have hf := oF hc hf
    refine k_iload_n E hl 2 dX8_stall_9 rfl ?_
    refine lv_bipush (v := (99 : Int32)) E.hx E.hb dX8_stall_10 bp_99 ?_
    refine lv_icmp_le (tgt := 26) E.hx E.hb dX8_stall_12 (by decide) (fun hc => ?_) (fun hc => ?_)
    · have hf := oT hc hf
      refine k_aload_n E hl 0 dX8_stall_26 rfl ?_
      refine gf_X8_50 E hW 0 rfl rfl dX8_stall_27 ?_
      refine k_aload_n E hl 0 dX8_stall_30 rfl ?_
      refine gf_X8_31 E hW 0 rfl rfl dX8_stall_31 ?_
      obtain ⟨pa_2, hg, hf⟩ := ob hf
      refine k_callGv (As := [.ref (a_no 0)]) (rest := []) (ws2 := fun u => (wMCo k a_th (a_in 0) (a_ou 0) (a_ru 0) (a_no 0) (a_fo 0) (a_rd 0) (a_pa 0) sv_th th_0 ++ wRules k a_ru ru_0 ++ wCourt k a_no no_0 ++ wPast k a_pa u.2 (u.1)) ++ poolW k u.2 (u.1).2) (c_X3_keep n l k a_no a_pa pp_0 pa_0 no_0 pa_2 hg) E vl_X8_283 dX8_stall_34 rfl [4, 5, 6, 7, 8, 9, 10, 11, 12, 13, 14, 15, 16, 17] 2 16 hW hA hl rfl rfl rfl rfl ⟨by decide, by decide⟩ ⟨by decide, by decide⟩ (Nat.le_of_ble_eq_true rfl) rfl (fun _ => rfl) (fun _ => rfl) (fun u H locs hp hW => ?_)
      obtain ⟨u0, pp_3⟩ := u
      try dsimp only at hp
      cases hp
      have hW : WD k A s.heap ((wMCo k a_th (a_in 0) (a_ou 0) (a_ru 0) (a_no 0) (a_fo 0) (a_rd 0) (a_pa 0) sv_th th_0 ++ wRules k a_ru ru_0 ++ wCourt k a_no no_0 ++ wPast k a_pa pp_3 pa_2) ++ poolW k pp_3 pa_2.2) H locs := hW
      refine k_aload_n E hl 0 dX8_stall_37 rfl ?_
      refine gf_X8_31 E hW 0 rfl rfl dX8_stall_38 ?_
      refine gf_X8_168 E hW 4 rfl rfl dX8_stall_41 ?_
      refine k_iload_n E hl 1 dX8_stall_44 rfl ?_
      refine lv_iconst (v := (2 : Int32)) E.hx E.hb dX8_stall_45 ic_2 ?_
      obtain ⟨r_4, hg, hf⟩ := ob hf
      refine k_callVi (As := [.int v1_0, .int (2 : Int32)]) (rest := []) (ws2 := fun u => (wMCo k a_th (a_in 0) (a_ou 0) (a_ru 0) (a_no 0) (a_fo 0) (a_rd 0) (a_pa 0) sv_th th_0 ++ wRules k a_ru ru_0 ++ wCourt k a_no no_0 ++ wPast k a_pa pp_3 pa_2) ++ poolW k pp_3 pa_2.2) (c_X6_get n l k (fun j => a_no (3 + j)) (5 : Int32) 40 (no_0.2.1 11) v1_0 (2 : Int32) r_4 hg) E vl_X8_171 dX8_stall_46 rfl [7, 8] 5 7 hW hA hl rfl rfl rfl rfl ⟨by decide, by decide⟩ ⟨by decide, by decide⟩ (Nat.le_of_ble_eq_true rfl) rfl (fun _ => rfl) (fun _ => rfl) (fun r u H locs hp hW => ?_)
      cases hp
      have hW : WD k A s.heap ((wMCo k a_th (a_in 0) (a_ou 0) (a_ru 0) (a_no 0) (a_fo 0) (a_rd 0) (a_pa 0) sv_th th_0 ++ wRules k a_ru ru_0 ++ wCourt k a_no no_0 ++ wPast k a_pa pp_3 pa_2) ++ poolW k pp_3 pa_2.2) H locs := hW
      refine k_istore_n (lv' := [(3, .int r_4), (0, .ref (a_th 0)), (1, .int v1_0), (2, .int v2_0)]) E rfl hl dX8_stall_49 rfl (by decide) rfl (fun ls hl => ?_)
      refine k_aload_n E hl 1 dX8_stall_50 rfl ?_
      refine gf_X8_31 E hW 0 rfl rfl dX8_stall_51 ?_
      refine gf_X8_168 E hW 4 rfl rfl dX8_stall_54 ?_
      refine k_iload_n E hl 2 dX8_stall_57 rfl ?_
      refine lv_iconst (v := (2 : Int32)) E.hx E.hb dX8_stall_58 ic_2 ?_
      refine k_iload_n E hl 3 dX8_stall_59 rfl ?_
      obtain ⟨y_5, hg, hf⟩ := ob hf
      obtain ⟨no_6, eno_6, hf⟩ := oL hf
      refine k_callVv (As := [.int v1_0, .int (2 : Int32), .int v2_0]) (rest := []) (ws2 := fun u => (wMCo k a_th (a_in 0) (a_ou 0) (a_ru 0) (a_no 0) (a_fo 0) (a_rd 0) (a_pa 0) sv_th th_0 ++ wRules k a_ru ru_0 ++ wCourt k a_no (sA no_0 11 (u)) ++ wPast k a_pa pp_3 pa_2) ++ poolW k pp_3 pa_2.2) (c_X6_set n l k (fun j => a_no (3 + j)) (5 : Int32) 40 (no_0.2.1 11) v1_0 (2 : Int32) v2_0 y_5 hg) E vl_X8_303 dX8_stall_60 rfl [7, 8] 5 7 hW hA hl rfl rfl rfl rfl ⟨by decide, by decide⟩ ⟨by decide, by decide⟩ (Nat.le_of_ble_eq_true rfl) rfl (fun _ => rfl) (fun _ => rfl) (fun u H locs hp hW => ?_)
      cases hp
      have hW : WD k A s.heap ((wMCo k a_th (a_in 0) (a_ou 0) (a_ru 0) (a_no 0) (a_fo 0) (a_rd 0) (a_pa 0) sv_th th_0 ++ wRules k a_ru ru_0 ++ wCourt k a_no no_6 ++ wPast k a_pa pp_3 pa_2) ++ poolW k pp_3 pa_2.2) H locs := by rw [eno_6]; exact hW
      refine k_iload_n E hl 0 dX8_stall_63 rfl ?_
      exact hret _ (no_6, pa_2, pp_3) _ _ _ _ _ _ hW (Option.some.inj hf).symm rfl (by decide) (by decide) dX8_stall_64
    · have hf := oF hc hf
      exact hthr 2 (no_0, pa_0, pp_0) _ _ _ _ _ _ _ _ _ _ _ xr_2 xt_313 ⟨by decide, (Option.some.inj hf).symm⟩ hW hl ⟨dX8_stall_15, dX8_stall_18, Or.inr ⟨dX8_stall_19, dX8_stall_22, dX8_stall_25⟩⟩ (by decide) (by decide)
def f_X8_appeal (n : Nat) (sv_th : Value) (th_0 : OS) (ru_0 : OS) (no_0 : OS) (pa_0 : PS) (v1_0 : Int32) : Option (OS × PS × Int32 × Nat) :=
  bnd (f_X8_needFine n sv_th th_0 no_0 v1_0) (fun (cd_1 : Nat) =>
  if cd_1 = 0 then (
  bnd (f_X2_isAppealable n no_0 v1_0 (ru_0.1 6)) (fun (r_2 : Int32) =>
  if r_2 = 0 then (
  some (no_0, pa_0, (0 : Int32), 3)) else (
  bnd (f_X3_keep n pa_0 no_0) (fun (pa_3 : PS) =>
  bnd (f_X2_evidenceFor n no_0 v1_0) (fun (r_5 : Int32) =>
  bnd2 (f_X2_lessen n no_0 v1_0 r_5) (fun (no_6 : OS) (r_7 : Int32) =>
  some (no_6, pa_3, r_7, 0))))))) else (
  some (no_0, pa_0, (0 : Int32), cd_1)))
set_option maxHeartbeats 4000000 in
set_option maxRecDepth 100000 in
theorem c_X8_appeal (n : Nat) (l : Launch) (k : KT) (hx : XH l k) (a_th : Nat → Nat) (a_in : Nat → Nat) (a_ou : Nat → Nat) (a_ru : Nat → Nat) (a_no : Nat → Nat) (a_fo : Nat → Nat) (a_rd : Nat → Nat) (a_pa : Nat → Nat) (pp_0 : Nat → Nat → Nat) (sv_th : Value) (th_0 : OS) (ru_0 : OS) (no_0 : OS) (pa_0 : PS) (v1_0 : Int32) (res : (OS × PS × Int32 × Nat)) (hf : f_X8_appeal n sv_th th_0 ru_0 no_0 pa_0 v1_0 = some res) : CX l k yX8_appeal cX8_appeal 2 (some .int) 7 14 2006 222 [.ref (a_th 0), .int v1_0] ((wMCo k a_th (a_in 0) (a_ou 0) (a_ru 0) (a_no 0) (a_fo 0) (a_rd 0) (a_pa 0) sv_th th_0 ++ wRules k a_ru ru_0 ++ wCourt k a_no no_0 ++ wPast k a_pa pp_0 pa_0) ++ poolW k pp_0 pa_0.2) (Qi k (fun u : (OS) × (PS) × (Nat → Nat → Nat) => (wMCo k a_th (a_in 0) (a_ou 0) (a_ru 0) (a_no 0) (a_fo 0) (a_rd 0) (a_pa 0) sv_th th_0 ++ wRules k a_ru ru_0 ++ wCourt k a_no (u.1) ++ wPast k a_pa (u.2.2) (u.2.1)) ++ poolW k (u.2.2) (u.2.1).2) (fun (r : Int32) (u : (OS) × (PS) × (Nat → Nat → Nat)) => res = (u.1, u.2.1, r, 0))) (Xq k (fun u : (OS) × (PS) × (Nat → Nat → Nat) => (wMCo k a_th (a_in 0) (a_ou 0) (a_ru 0) (a_no 0) (a_fo 0) (a_rd 0) (a_pa 0) sv_th th_0 ++ wRules k a_ru ru_0 ++ wCourt k a_no (u.1) ++ wPast k a_pa (u.2.2) (u.2.1)) ++ poolW k (u.2.2) (u.2.1).2) (fun (cd : Nat) (u : (OS) × (PS) × (Nat → Nat → Nat)) => cd ≠ 0 ∧ res = (u.1, u.2.1, (0 : Int32), cd))) := by
  refine CX.ofI hx rfl (by decide) (Nat.le_of_ble_eq_true rfl) (by decide) (by decide) (fun p e s m args below meth c A Q E hnm hW hA hret hout hthr ls hl => ?_)
  have hl : lv_has ls 2 [(0, .ref (a_th 0)), (1, .int v1_0)] := hl
  unfold f_X8_appeal at hf
  refine k_aload_n E hl 0 dX8_appeal_0 rfl ?_
  refine k_iload_n E hl 1 dX8_appeal_1 rfl ?_
  obtain ⟨cd_1, hg, hf⟩ := ob hf
  refine k_callXv (As := [.int v1_0]) (rest := []) (ws2 := fun u => (wMCo k a_th (a_in 0) (a_ou 0) (a_ru 0) (a_no 0) (a_fo 0) (a_rd 0) (a_pa 0) sv_th th_0 ++ wRules k a_ru ru_0 ++ wCourt k a_no no_0 ++ wPast k a_pa pp_0 pa_0) ++ poolW k pp_0 pa_0.2) (c_X8_needFine n l k hx a_th a_in a_ou a_ru a_no a_fo a_rd a_pa sv_th th_0 no_0 v1_0 cd_1 hg) E vl_X8_239 dX8_appeal_2 rfl [0, 4, 5, 6, 7, 8, 9, 10, 11, 12, 13, 14, 15] 6 0 hW hA hl rfl rfl rfl rfl ⟨by decide, by decide⟩ ⟨by decide, by decide⟩ (Nat.le_of_ble_eq_true rfl) rfl (fun _ => rfl) (fun _ => rfl) (fun cd9 u ce9 q9 H locs hp hW hce hcv hcls => ?_) (fun u H locs hp hW => ?_)
  · obtain ⟨hcd, hp⟩ := hp
    cases hp
    have hW : WD k A s.heap ((wMCo k a_th (a_in 0) (a_ou 0) (a_ru 0) (a_no 0) (a_fo 0) (a_rd 0) (a_pa 0) sv_th th_0 ++ wRules k a_ru ru_0 ++ wCourt k a_no no_0 ++ wPast k a_pa pp_0 pa_0) ++ poolW k pp_0 pa_0.2) H locs := hW
    have hf := oF hcd hf
    exact hout _ (no_0, pa_0, pp_0) _ _ _ _ _ _ _ _ _ ⟨hcd, (Option.some.inj hf).symm⟩ hW hce hcv hcls (by decide) (by decide)
  cases hp
  have hW : WD k A s.heap ((wMCo k a_th (a_in 0) (a_ou 0) (a_ru 0) (a_no 0) (a_fo 0) (a_rd 0) (a_pa 0) sv_th th_0 ++ wRules k a_ru ru_0 ++ wCourt k a_no no_0 ++ wPast k a_pa pp_0 pa_0) ++ poolW k pp_0 pa_0.2) H locs := hW
  have hf := oT rfl hf
  refine k_aload_n E hl 0 dX8_appeal_5 rfl ?_
  refine gf_X8_31 E hW 0 rfl rfl dX8_appeal_6 ?_
  refine k_iload_n E hl 1 dX8_appeal_9 rfl ?_
  refine k_aload_n E hl 0 dX8_appeal_10 rfl ?_
  refine gf_X8_24 E hW 0 rfl rfl dX8_appeal_11 ?_
  refine gf_X8_126 E hW 1 rfl rfl dX8_appeal_14 ?_
  obtain ⟨r_2, hg, hf⟩ := ob hf
  refine k_callVi (As := [.int v1_0, .int (ru_0.1 6)]) (rest := []) (ws2 := fun u => (wMCo k a_th (a_in 0) (a_ou 0) (a_ru 0) (a_no 0) (a_fo 0) (a_rd 0) (a_pa 0) sv_th th_0 ++ wRules k a_ru ru_0 ++ wCourt k a_no no_0 ++ wPast k a_pa pp_0 pa_0) ++ poolW k pp_0 pa_0.2) (c_X2_isAppealable n l k a_no no_0 v1_0 (ru_0.1 6) r_2 hg) E vl_X8_323 dX8_appeal_17 rfl [4, 5, 6, 7, 8, 9, 10, 11, 12, 13, 14, 15] 1 4 hW hA hl rfl rfl rfl rfl ⟨by decide, by decide⟩ ⟨by decide, by decide⟩ (Nat.le_of_ble_eq_true rfl) rfl (fun _ => rfl) (fun _ => rfl) (fun r u H locs hp hW => ?_)
  cases hp
  have hW : WD k A s.heap ((wMCo k a_th (a_in 0) (a_ou 0) (a_ru 0) (a_no 0) (a_fo 0) (a_rd 0) (a_pa 0) sv_th th_0 ++ wRules k a_ru ru_0 ++ wCourt k a_no no_0 ++ wPast k a_pa pp_0 pa_0) ++ poolW k pp_0 pa_0.2) H locs := hW
  refine lv_if_ne (tgt := 34) E.hx E.hb dX8_appeal_20 (by decide) (fun hc => ?_) (fun hc => ?_)
  · have hf := oF hc hf
    refine k_aload_n E hl 0 dX8_appeal_34 rfl ?_
    refine gf_X8_50 E hW 0 rfl rfl dX8_appeal_35 ?_
    refine k_aload_n E hl 0 dX8_appeal_38 rfl ?_
    refine gf_X8_31 E hW 0 rfl rfl dX8_appeal_39 ?_
    obtain ⟨pa_3, hg, hf⟩ := ob hf
    refine k_callGv (As := [.ref (a_no 0)]) (rest := []) (ws2 := fun u => (wMCo k a_th (a_in 0) (a_ou 0) (a_ru 0) (a_no 0) (a_fo 0) (a_rd 0) (a_pa 0) sv_th th_0 ++ wRules k a_ru ru_0 ++ wCourt k a_no no_0 ++ wPast k a_pa u.2 (u.1)) ++ poolW k u.2 (u.1).2) (c_X3_keep n l k a_no a_pa pp_0 pa_0 no_0 pa_3 hg) E vl_X8_283 dX8_appeal_42 rfl [4, 5, 6, 7, 8, 9, 10, 11, 12, 13, 14, 15, 16, 17] 2 16 hW hA hl rfl rfl rfl rfl ⟨by decide, by decide⟩ ⟨by decide, by decide⟩ (Nat.le_of_ble_eq_true rfl) rfl (fun _ => rfl) (fun _ => rfl) (fun u H locs hp hW => ?_)
    obtain ⟨u0, pp_4⟩ := u
    try dsimp only at hp
    cases hp
    have hW : WD k A s.heap ((wMCo k a_th (a_in 0) (a_ou 0) (a_ru 0) (a_no 0) (a_fo 0) (a_rd 0) (a_pa 0) sv_th th_0 ++ wRules k a_ru ru_0 ++ wCourt k a_no no_0 ++ wPast k a_pa pp_4 pa_3) ++ poolW k pp_4 pa_3.2) H locs := hW
    refine k_aload_n E hl 0 dX8_appeal_45 rfl ?_
    refine gf_X8_31 E hW 0 rfl rfl dX8_appeal_46 ?_
    refine k_iload_n E hl 1 dX8_appeal_49 rfl ?_
    refine k_aload_n E hl 0 dX8_appeal_50 rfl ?_
    refine gf_X8_31 E hW 0 rfl rfl dX8_appeal_51 ?_
    refine k_iload_n E hl 1 dX8_appeal_54 rfl ?_
    obtain ⟨r_5, hg, hf⟩ := ob hf
    refine k_callVi (As := [.int v1_0]) (rest := [.int v1_0, .ref (a_no 0)]) (ws2 := fun u => (wMCo k a_th (a_in 0) (a_ou 0) (a_ru 0) (a_no 0) (a_fo 0) (a_rd 0) (a_pa 0) sv_th th_0 ++ wRules k a_ru ru_0 ++ wCourt k a_no no_0 ++ wPast k a_pa pp_4 pa_3) ++ poolW k pp_4 pa_3.2) (c_X2_evidenceFor n l k a_no no_0 v1_0 r_5 hg) E vl_X8_245 dX8_appeal_55 rfl [4, 5, 6, 7, 8, 9, 10, 11, 12, 13, 14, 15] 1 4 hW hA hl rfl rfl rfl rfl ⟨by decide, by decide⟩ ⟨by decide, by decide⟩ (Nat.le_of_ble_eq_true rfl) rfl (fun _ => rfl) (fun _ => rfl) (fun r u H locs hp hW => ?_)
    cases hp
    have hW : WD k A s.heap ((wMCo k a_th (a_in 0) (a_ou 0) (a_ru 0) (a_no 0) (a_fo 0) (a_rd 0) (a_pa 0) sv_th th_0 ++ wRules k a_ru ru_0 ++ wCourt k a_no no_0 ++ wPast k a_pa pp_4 pa_3) ++ poolW k pp_4 pa_3.2) H locs := hW
    obtain ⟨no_6, r_7, hg, hf⟩ := ob2 hf
    refine k_callVi (As := [.int v1_0, .int r_5]) (rest := []) (ws2 := fun u => (wMCo k a_th (a_in 0) (a_ou 0) (a_ru 0) (a_no 0) (a_fo 0) (a_rd 0) (a_pa 0) sv_th th_0 ++ wRules k a_ru ru_0 ++ wCourt k a_no (u) ++ wPast k a_pa pp_4 pa_3) ++ poolW k pp_4 pa_3.2) (c_X2_lessen n l k a_no no_0 v1_0 r_5 (no_6, r_7) hg) E vl_X8_328 dX8_appeal_58 rfl [4, 5, 6, 7, 8, 9, 10, 11, 12, 13, 14, 15] 1 4 hW hA hl rfl rfl rfl rfl ⟨by decide, by decide⟩ ⟨by decide, by decide⟩ (Nat.le_of_ble_eq_true rfl) rfl (fun _ => rfl) (fun _ => rfl) (fun r u H locs hp hW => ?_)
    cases hp
    have hW : WD k A s.heap ((wMCo k a_th (a_in 0) (a_ou 0) (a_ru 0) (a_no 0) (a_fo 0) (a_rd 0) (a_pa 0) sv_th th_0 ++ wRules k a_ru ru_0 ++ wCourt k a_no no_6 ++ wPast k a_pa pp_4 pa_3) ++ poolW k pp_4 pa_3.2) H locs := hW
    exact hret _ (no_6, pa_3, pp_4) _ _ _ _ _ _ hW (Option.some.inj hf).symm rfl (by decide) (by decide) dX8_appeal_61
  · have hf := oT hc hf
    exact hthr 3 (no_0, pa_0, pp_0) _ _ _ _ _ _ _ _ _ _ _ xr_3 xt_326 ⟨by decide, (Option.some.inj hf).symm⟩ hW hl ⟨dX8_appeal_23, dX8_appeal_26, Or.inr ⟨dX8_appeal_27, dX8_appeal_30, dX8_appeal_33⟩⟩ (by decide) (by decide)
def f_X8_setOrder (n : Nat) (sv_th : Value) (th_0 : OS) (no_0 : OS) (pa_0 : PS) (v1_0 : Int32) : Option (OS × PS × Int32 × Nat) :=
  if v1_0 < 0 then (
  some (no_0, pa_0, (0 : Int32), 2)) else (
  if v1_0 ≤ (2 : Int32) then (
  bnd (f_X3_keep n pa_0 no_0) (fun (pa_1 : PS) =>
  Let (no_0.1 1) (fun v2_3 : Int32 =>
  Let (sI no_0 1 v1_0) (fun no_4 : OS =>
  some (no_4, pa_1, v2_3, 0))))) else (
  some (no_0, pa_0, (0 : Int32), 2)))
set_option maxHeartbeats 4000000 in
set_option maxRecDepth 100000 in
theorem c_X8_setOrder (n : Nat) (l : Launch) (k : KT) (hx : XH l k) (a_th : Nat → Nat) (a_in : Nat → Nat) (a_ou : Nat → Nat) (a_ru : Nat → Nat) (a_no : Nat → Nat) (a_fo : Nat → Nat) (a_rd : Nat → Nat) (a_pa : Nat → Nat) (pp_0 : Nat → Nat → Nat) (sv_th : Value) (th_0 : OS) (no_0 : OS) (pa_0 : PS) (v1_0 : Int32) (res : (OS × PS × Int32 × Nat)) (hf : f_X8_setOrder n sv_th th_0 no_0 pa_0 v1_0 = some res) : CX l k yX8_setOrder cX8_setOrder 3 (some .int) 6 13 2000 222 [.ref (a_th 0), .int v1_0] ((wMCo k a_th (a_in 0) (a_ou 0) (a_ru 0) (a_no 0) (a_fo 0) (a_rd 0) (a_pa 0) sv_th th_0 ++ wCourt k a_no no_0 ++ wPast k a_pa pp_0 pa_0) ++ poolW k pp_0 pa_0.2) (Qi k (fun u : (OS) × (PS) × (Nat → Nat → Nat) => (wMCo k a_th (a_in 0) (a_ou 0) (a_ru 0) (a_no 0) (a_fo 0) (a_rd 0) (a_pa 0) sv_th th_0 ++ wCourt k a_no (u.1) ++ wPast k a_pa (u.2.2) (u.2.1)) ++ poolW k (u.2.2) (u.2.1).2) (fun (r : Int32) (u : (OS) × (PS) × (Nat → Nat → Nat)) => res = (u.1, u.2.1, r, 0))) (Xq k (fun u : (OS) × (PS) × (Nat → Nat → Nat) => (wMCo k a_th (a_in 0) (a_ou 0) (a_ru 0) (a_no 0) (a_fo 0) (a_rd 0) (a_pa 0) sv_th th_0 ++ wCourt k a_no (u.1) ++ wPast k a_pa (u.2.2) (u.2.1)) ++ poolW k (u.2.2) (u.2.1).2) (fun (cd : Nat) (u : (OS) × (PS) × (Nat → Nat → Nat)) => cd ≠ 0 ∧ res = (u.1, u.2.1, (0 : Int32), cd))) := by
  refine CX.ofI hx rfl (by decide) (Nat.le_of_ble_eq_true rfl) (by decide) (by decide) (fun p e s m args below meth c A Q E hnm hW hA hret hout hthr ls hl => ?_)
  have hl : lv_has ls 3 [(0, .ref (a_th 0)), (1, .int v1_0)] := hl
  unfold f_X8_setOrder at hf
  refine k_iload_n E hl 1 dX8_setOrder_0 rfl ?_
  refine lv_if_lt (tgt := 9) E.hx E.hb dX8_setOrder_1 (by decide) (fun hc => ?_) (fun hc => ?_)
  · have hf := oT hc hf
    exact hthr 2 (no_0, pa_0, pp_0) _ _ _ _ _ _ _ _ _ _ _ xr_2 xt_331 ⟨by decide, (Option.some.inj hf).symm⟩ hW hl ⟨dX8_setOrder_9, dX8_setOrder_12, Or.inr ⟨dX8_setOrder_13, dX8_setOrder_16, dX8_setOrder_19⟩⟩ (by decide) (by decide)
  · have hf := oF hc hf
    refine k_iload_n E hl 1 dX8_setOrder_4 rfl ?_
    refine lv_iconst (v := (2 : Int32)) E.hx E.hb dX8_setOrder_5 ic_2 ?_
    refine lv_icmp_le (tgt := 20) E.hx E.hb dX8_setOrder_6 (by decide) (fun hc => ?_) (fun hc => ?_)
    · have hf := oT hc hf
      refine k_aload_n E hl 0 dX8_setOrder_20 rfl ?_
      refine gf_X8_50 E hW 0 rfl rfl dX8_setOrder_21 ?_
      refine k_aload_n E hl 0 dX8_setOrder_24 rfl ?_
      refine gf_X8_31 E hW 0 rfl rfl dX8_setOrder_25 ?_
      obtain ⟨pa_1, hg, hf⟩ := ob hf
      refine k_callGv (As := [.ref (a_no 0)]) (rest := []) (ws2 := fun u => (wMCo k a_th (a_in 0) (a_ou 0) (a_ru 0) (a_no 0) (a_fo 0) (a_rd 0) (a_pa 0) sv_th th_0 ++ wCourt k a_no no_0 ++ wPast k a_pa u.2 (u.1)) ++ poolW k u.2 (u.1).2) (c_X3_keep n l k a_no a_pa pp_0 pa_0 no_0 pa_1 hg) E vl_X8_283 dX8_setOrder_28 rfl [1, 2, 3, 4, 5, 6, 7, 8, 9, 10, 11, 12, 13, 14] 2 13 hW hA hl rfl rfl rfl rfl ⟨by decide, by decide⟩ ⟨by decide, by decide⟩ (Nat.le_of_ble_eq_true rfl) rfl (fun _ => rfl) (fun _ => rfl) (fun u H locs hp hW => ?_)
      obtain ⟨u0, pp_2⟩ := u
      try dsimp only at hp
      cases hp
      have hW : WD k A s.heap ((wMCo k a_th (a_in 0) (a_ou 0) (a_ru 0) (a_no 0) (a_fo 0) (a_rd 0) (a_pa 0) sv_th th_0 ++ wCourt k a_no no_0 ++ wPast k a_pa pp_2 pa_1) ++ poolW k pp_2 pa_1.2) H locs := hW
      refine k_aload_n E hl 0 dX8_setOrder_31 rfl ?_
      refine gf_X8_31 E hW 0 rfl rfl dX8_setOrder_32 ?_
      refine gf_X8_111 E hW 1 rfl rfl dX8_setOrder_35 ?_
      obtain ⟨v2_3, ev2_3, hf⟩ := oL hf
      refine k_istore_n (lv' := [(2, .int v2_3), (0, .ref (a_th 0)), (1, .int v1_0)]) E ev2_3 hl dX8_setOrder_38 rfl (by decide) rfl (fun ls hl => ?_)
      refine k_aload_n E hl 1 dX8_setOrder_39 rfl ?_
      refine gf_X8_31 E hW 0 rfl rfl dX8_setOrder_40 ?_
      refine k_iload_n E hl 2 dX8_setOrder_43 rfl ?_
      obtain ⟨no_4, eno_4, hf⟩ := oL hf
      refine pf_X8_111 (ws2 := (wMCo k a_th (a_in 0) (a_ou 0) (a_ru 0) (a_no 0) (a_fo 0) (a_rd 0) (a_pa 0) sv_th th_0 ++ wCourt k a_no no_4 ++ wPast k a_pa pp_2 pa_1) ++ poolW k pp_2 pa_1.2) E hW 1 rfl rfl rfl (Nat.le_of_ble_eq_true rfl) dX8_setOrder_44 (by rw [eno_4]; rfl) (fun H locs hW => ?_)
      refine k_iload_n E hl 0 dX8_setOrder_47 rfl ?_
      exact hret _ (no_4, pa_1, pp_2) _ _ _ _ _ _ hW (Option.some.inj hf).symm rfl (by decide) (by decide) dX8_setOrder_48
    · have hf := oF hc hf
      exact hthr 2 (no_0, pa_0, pp_0) _ _ _ _ _ _ _ _ _ _ _ xr_2 xt_331 ⟨by decide, (Option.some.inj hf).symm⟩ hW hl ⟨dX8_setOrder_9, dX8_setOrder_12, Or.inr ⟨dX8_setOrder_13, dX8_setOrder_16, dX8_setOrder_19⟩⟩ (by decide) (by decide)
def f_X8_undo (n : Nat) (sv_th : Value) (th_0 : OS) (no_0 : OS) (pa_0 : PS) : Option (OS × PS × Int32 × Nat) :=
  if (pa_0.1 2) = 0 then (
  some (no_0, pa_0, (0 : Int32), 3)) else (
  bnd2 (f_X3_bringBack n pa_0 no_0) (fun (no_2 : OS) (pa_1 : PS) =>
  some (no_2, pa_1, (pa_1.1 2), 0)))
set_option maxHeartbeats 4000000 in
set_option maxRecDepth 100000 in
theorem c_X8_undo (n : Nat) (l : Launch) (k : KT) (hx : XH l k) (a_th : Nat → Nat) (a_in : Nat → Nat) (a_ou : Nat → Nat) (a_ru : Nat → Nat) (a_no : Nat → Nat) (a_fo : Nat → Nat) (a_rd : Nat → Nat) (a_pa : Nat → Nat) (pp_0 : Nat → Nat → Nat) (sv_th : Value) (th_0 : OS) (no_0 : OS) (pa_0 : PS) (res : (OS × PS × Int32 × Nat)) (hf : f_X8_undo n sv_th th_0 no_0 pa_0 = some res) : CX l k yX8_undo cX8_undo 1 (some .int) 6 1 6 222 [.ref (a_th 0)] ((wMCo k a_th (a_in 0) (a_ou 0) (a_ru 0) (a_no 0) (a_fo 0) (a_rd 0) (a_pa 0) sv_th th_0 ++ wCourt k a_no no_0 ++ wPast k a_pa pp_0 pa_0) ++ poolW k pp_0 pa_0.2) (Qi k (fun u : (OS) × (PS) × (Nat → Nat → Nat) => (wMCo k a_th (a_in 0) (a_ou 0) (a_ru 0) (a_no 0) (a_fo 0) (a_rd 0) (a_pa 0) sv_th th_0 ++ wCourt k a_no (u.1) ++ wPast k a_pa (u.2.2) (u.2.1)) ++ poolW k (u.2.2) (u.2.1).2) (fun (r : Int32) (u : (OS) × (PS) × (Nat → Nat → Nat)) => res = (u.1, u.2.1, r, 0))) (Xq k (fun u : (OS) × (PS) × (Nat → Nat → Nat) => (wMCo k a_th (a_in 0) (a_ou 0) (a_ru 0) (a_no 0) (a_fo 0) (a_rd 0) (a_pa 0) sv_th th_0 ++ wCourt k a_no (u.1) ++ wPast k a_pa (u.2.2) (u.2.1)) ++ poolW k (u.2.2) (u.2.1).2) (fun (cd : Nat) (u : (OS) × (PS) × (Nat → Nat → Nat)) => cd ≠ 0 ∧ res = (u.1, u.2.1, (0 : Int32), cd))) := by
  refine CX.ofI hx rfl (by decide) (Nat.le_of_ble_eq_true rfl) (by decide) (by decide) (fun p e s m args below meth c A Q E hnm hW hA hret hout hthr ls hl => ?_)
  have hl : lv_has ls 1 [(0, .ref (a_th 0))] := hl
  unfold f_X8_undo at hf
  refine k_aload_n E hl 0 dX8_undo_0 rfl ?_
  refine gf_X8_50 E hW 0 rfl rfl dX8_undo_1 ?_
  refine gf_X8_158 E hW 13 rfl rfl dX8_undo_4 ?_
  refine lv_if_ne (tgt := 21) E.hx E.hb dX8_undo_7 (by decide) (fun hc => ?_) (fun hc => ?_)
  · have hf := oF hc hf
    refine k_aload_n E hl 0 dX8_undo_21 rfl ?_
    refine gf_X8_50 E hW 0 rfl rfl dX8_undo_22 ?_
    refine k_aload_n E hl 0 dX8_undo_25 rfl ?_
    refine gf_X8_31 E hW 0 rfl rfl dX8_undo_26 ?_
    obtain ⟨no_2, pa_1, hg, hf⟩ := ob2 hf
    refine k_callGv (As := [.ref (a_no 0)]) (rest := []) (ws2 := fun u => (wMCo k a_th (a_in 0) (a_ou 0) (a_ru 0) (a_no 0) (a_fo 0) (a_rd 0) (a_pa 0) sv_th th_0 ++ wCourt k a_no (u.1) ++ wPast k a_pa u.2.2 (u.2.1)) ++ poolW k u.2.2 (u.2.1).2) (c_X3_bringBack n l k a_no a_pa pp_0 pa_0 no_0 (no_2, pa_1) hg) E vl_X8_335 dX8_undo_29 rfl [1, 2, 3, 4, 5, 6, 7, 8, 9, 10, 11, 12, 13, 14] 2 13 hW hA hl rfl rfl rfl rfl ⟨by decide, by decide⟩ ⟨by decide, by decide⟩ (Nat.le_of_ble_eq_true rfl) rfl (fun _ => rfl) (fun _ => rfl) (fun u H locs hp hW => ?_)
    obtain ⟨u0, u1, pp_3⟩ := u
    try dsimp only at hp
    cases hp
    have hW : WD k A s.heap ((wMCo k a_th (a_in 0) (a_ou 0) (a_ru 0) (a_no 0) (a_fo 0) (a_rd 0) (a_pa 0) sv_th th_0 ++ wCourt k a_no no_2 ++ wPast k a_pa pp_3 pa_1) ++ poolW k pp_3 pa_1.2) H locs := hW
    refine k_aload_n E hl 0 dX8_undo_32 rfl ?_
    refine gf_X8_50 E hW 0 rfl rfl dX8_undo_33 ?_
    refine gf_X8_158 E hW 13 rfl rfl dX8_undo_36 ?_
    exact hret _ (no_2, pa_1, pp_3) _ _ _ _ _ _ hW (Option.some.inj hf).symm rfl (by decide) (by decide) dX8_undo_39
  · have hf := oT hc hf
    exact hthr 3 (no_0, pa_0, pp_0) _ _ _ _ _ _ _ _ _ _ _ xr_3 xt_333 ⟨by decide, (Option.some.inj hf).symm⟩ hW hl ⟨dX8_undo_10, dX8_undo_13, Or.inr ⟨dX8_undo_14, dX8_undo_17, dX8_undo_20⟩⟩ (by decide) (by decide)
