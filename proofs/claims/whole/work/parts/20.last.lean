theorem tm_1950 : (Jvm.Cond.methodLink "MemoryCourtModel" (453 : Nat) ({ cls := "MemoryCourtModel", name := "saysSpaced", desc := "(I)V" } : Jvm.MethodName)) ∈ lw_tbl := List.mem_of_getElem? (i := 1950) (by decide +kernel)
theorem tm_1952 : (Jvm.Cond.instanceMethod ({ cls := "MemoryCourtModel", name := "saysSpaced", desc := "(I)V" } : Jvm.MethodName)) ∈ lw_tbl := List.mem_of_getElem? (i := 1952) (by decide +kernel)
theorem tms_104 : (Jvm.Cond.selects "MemoryCourtModel" ({ cls := "MemoryCourtModel", name := "saysSpaced", desc := "(I)V" } : Jvm.MethodName) ({ cls := "MemoryCourtModel", name := "saysSpaced", desc := "(I)V" } : Jvm.MethodName)) ∈ lw_tbl := List.mem_of_getElem? (i := 104) (by decide +kernel)
theorem tm_1953 : (Jvm.Cond.code ({ cls := "MemoryCourtModel", name := "saysSpaced", desc := "(I)V" } : Jvm.MethodName) prog_11_method_131_code (2 : Nat) (Option.none : Option Jvm.ClassFile.FieldType)) ∈ lw_tbl := List.mem_of_getElem? (i := 1953) (by decide +kernel)
theorem tm_1958 : (Jvm.Cond.methodLink "MemoryCourtModel" (456 : Nat) ({ cls := "MemoryCourtModel", name := "saysLoan", desc := "(I)V" } : Jvm.MethodName)) ∈ lw_tbl := List.mem_of_getElem? (i := 1958) (by decide +kernel)
theorem tm_1960 : (Jvm.Cond.instanceMethod ({ cls := "MemoryCourtModel", name := "saysLoan", desc := "(I)V" } : Jvm.MethodName)) ∈ lw_tbl := List.mem_of_getElem? (i := 1960) (by decide +kernel)
theorem tms_106 : (Jvm.Cond.selects "MemoryCourtModel" ({ cls := "MemoryCourtModel", name := "saysLoan", desc := "(I)V" } : Jvm.MethodName) ({ cls := "MemoryCourtModel", name := "saysLoan", desc := "(I)V" } : Jvm.MethodName)) ∈ lw_tbl := List.mem_of_getElem? (i := 106) (by decide +kernel)
theorem tm_1961 : (Jvm.Cond.code ({ cls := "MemoryCourtModel", name := "saysLoan", desc := "(I)V" } : Jvm.MethodName) prog_11_method_133_code (2 : Nat) (Option.none : Option Jvm.ClassFile.FieldType)) ∈ lw_tbl := List.mem_of_getElem? (i := 1961) (by decide +kernel)
theorem tm_732 : (Jvm.Cond.methodLink "MemoryCourt" (272 : Nat) ({ cls := "MemoryCourt$Court", name := "lateness", desc := "()I" } : Jvm.MethodName)) ∈ lw_tbl := List.mem_of_getElem? (i := 732) (by decide +kernel)
theorem tm_733 : (Jvm.Cond.instanceMethod ({ cls := "MemoryCourt$Court", name := "lateness", desc := "()I" } : Jvm.MethodName)) ∈ lw_tbl := List.mem_of_getElem? (i := 733) (by decide +kernel)
theorem tm_734 : (Jvm.Cond.selects "MemoryCourt$Court" ({ cls := "MemoryCourt$Court", name := "lateness", desc := "()I" } : Jvm.MethodName) ({ cls := "MemoryCourt$Court", name := "lateness", desc := "()I" } : Jvm.MethodName)) ∈ lw_tbl := List.mem_of_getElem? (i := 734) (by decide +kernel)
theorem tm_735 : (Jvm.Cond.code ({ cls := "MemoryCourt$Court", name := "lateness", desc := "()I" } : Jvm.MethodName) prog_4_method_19_code (3 : Nat) (Option.some Jvm.ClassFile.FieldType.int)) ∈ lw_tbl := List.mem_of_getElem? (i := 735) (by decide +kernel)
theorem vl_X9_453 : VL RX9 453 RX9 yX9_saysSpaced cX9_saysSpaced 2 none 1 := ⟨⟨tm_1950, tm_1952, tms_104, tm_119, tm_1953⟩, by decide +kernel⟩
theorem vl_X9_456 : VL RX9 456 RX9 yX9_saysLoan cX9_saysLoan 2 none 1 := ⟨⟨tm_1958, tm_1960, tms_106, tm_119, tm_1961⟩, by decide +kernel⟩
theorem vl_X8_272 : VL RX8 272 RX2 yX2_lateness cX2_lateness 3 (some .int) 0 := ⟨⟨tm_732, tm_733, tm_734, tm_113, tm_735⟩, by decide +kernel⟩
theorem dX9_saysSpaced_0 : decode cX9_saysSpaced 0 = .ok (.aload_n 0, 1) := by decide +kernel
theorem dX9_saysSpaced_1 : decode cX9_saysSpaced 1 = .ok (.bipush 32, 2) := by decide +kernel
theorem dX9_saysSpaced_3 : decode cX9_saysSpaced 3 = .ok (.invokevirtual 447, 3) := by decide +kernel
theorem dX9_saysSpaced_6 : decode cX9_saysSpaced 6 = .ok (.aload_n 0, 1) := by decide +kernel
theorem dX9_saysSpaced_7 : decode cX9_saysSpaced 7 = .ok (.iload_n 1, 1) := by decide +kernel
theorem dX9_saysSpaced_8 : decode cX9_saysSpaced 8 = .ok (.invokevirtual 450, 3) := by decide +kernel
theorem dX9_saysSpaced_11 : decode cX9_saysSpaced 11 = .ok (.return_, 1) := by decide +kernel
theorem dX9_saysLoan_0 : decode cX9_saysLoan 0 = .ok (.aload_n 0, 1) := by decide +kernel
theorem dX9_saysLoan_1 : decode cX9_saysLoan 1 = .ok (.aload_n 0, 1) := by decide +kernel
theorem dX9_saysLoan_2 : decode cX9_saysLoan 2 = .ok (.iload_n 1, 1) := by decide +kernel
theorem dX9_saysLoan_3 : decode cX9_saysLoan 3 = .ok (.invokevirtual 103, 3) := by decide +kernel
theorem dX9_saysLoan_6 : decode cX9_saysLoan 6 = .ok (.invokevirtual 453, 3) := by decide +kernel
theorem dX9_saysLoan_9 : decode cX9_saysLoan 9 = .ok (.aload_n 0, 1) := by decide +kernel
theorem dX9_saysLoan_10 : decode cX9_saysLoan 10 = .ok (.bipush 64, 2) := by decide +kernel
theorem dX9_saysLoan_12 : decode cX9_saysLoan 12 = .ok (.invokevirtual 447, 3) := by decide +kernel
theorem dX9_saysLoan_15 : decode cX9_saysLoan 15 = .ok (.aload_n 0, 1) := by decide +kernel
theorem dX9_saysLoan_16 : decode cX9_saysLoan 16 = .ok (.aload_n 0, 1) := by decide +kernel
theorem dX9_saysLoan_17 : decode cX9_saysLoan 17 = .ok (.iload_n 1, 1) := by decide +kernel
theorem dX9_saysLoan_18 : decode cX9_saysLoan 18 = .ok (.iconst 1, 1) := by decide +kernel
theorem dX9_saysLoan_19 : decode cX9_saysLoan 19 = .ok (.invokevirtual 106, 3) := by decide +kernel
theorem dX9_saysLoan_22 : decode cX9_saysLoan 22 = .ok (.invokevirtual 450, 3) := by decide +kernel
theorem dX9_saysLoan_25 : decode cX9_saysLoan 25 = .ok (.aload_n 0, 1) := by decide +kernel
theorem dX9_saysLoan_26 : decode cX9_saysLoan 26 = .ok (.iload_n 1, 1) := by decide +kernel
theorem dX9_saysLoan_27 : decode cX9_saysLoan 27 = .ok (.invokevirtual 109, 3) := by decide +kernel
theorem dX9_saysLoan_30 : decode cX9_saysLoan 30 = .ok (.ifCond .eq 9, 3) := by decide +kernel
theorem dX9_saysLoan_33 : decode cX9_saysLoan 33 = .ok (.aload_n 0, 1) := by decide +kernel
theorem dX9_saysLoan_34 : decode cX9_saysLoan 34 = .ok (.bipush 33, 2) := by decide +kernel
theorem dX9_saysLoan_36 : decode cX9_saysLoan 36 = .ok (.invokevirtual 447, 3) := by decide +kernel
theorem dX9_saysLoan_39 : decode cX9_saysLoan 39 = .ok (.return_, 1) := by decide +kernel
theorem dX9_printProcess_0 : decode cX9_printProcess 0 = .ok (.aload_n 0, 1) := by decide +kernel
theorem dX9_printProcess_1 : decode cX9_printProcess 1 = .ok (.aload_n 0, 1) := by decide +kernel
theorem dX9_printProcess_2 : decode cX9_printProcess 2 = .ok (.iload_n 1, 1) := by decide +kernel
theorem dX9_printProcess_3 : decode cX9_printProcess 3 = .ok (.invokevirtual 223, 3) := by decide +kernel
theorem dX9_printProcess_6 : decode cX9_printProcess 6 = .ok (.invokevirtual 77, 3) := by decide +kernel
theorem dX9_printProcess_9 : decode cX9_printProcess 9 = .ok (.ifCond .ne 5, 3) := by decide +kernel
theorem dX9_printProcess_12 : decode cX9_printProcess 12 = .ok (.iconst 0, 1) := by decide +kernel
theorem dX9_printProcess_13 : decode cX9_printProcess 13 = .ok (.ireturn, 1) := by decide +kernel
theorem dX9_printProcess_14 : decode cX9_printProcess 14 = .ok (.aload_n 0, 1) := by decide +kernel
theorem dX9_printProcess_15 : decode cX9_printProcess 15 = .ok (.iconst 0, 1) := by decide +kernel
theorem dX9_printProcess_16 : decode cX9_printProcess 16 = .ok (.putfield 438, 3) := by decide +kernel
theorem dX9_printProcess_19 : decode cX9_printProcess 19 = .ok (.aload_n 0, 1) := by decide +kernel
theorem dX9_printProcess_20 : decode cX9_printProcess 20 = .ok (.aload_n 0, 1) := by decide +kernel
theorem dX9_printProcess_21 : decode cX9_printProcess 21 = .ok (.getfield 7, 3) := by decide +kernel
theorem dX9_printProcess_24 : decode cX9_printProcess 24 = .ok (.iload_n 1, 1) := by decide +kernel
theorem dX9_printProcess_25 : decode cX9_printProcess 25 = .ok (.laload, 1) := by decide +kernel
theorem dX9_printProcess_26 : decode cX9_printProcess 26 = .ok (.invokevirtual 443, 3) := by decide +kernel
theorem dX9_printProcess_29 : decode cX9_printProcess 29 = .ok (.aload_n 0, 1) := by decide +kernel
theorem dX9_printProcess_30 : decode cX9_printProcess 30 = .ok (.aload_n 0, 1) := by decide +kernel
theorem dX9_printProcess_31 : decode cX9_printProcess 31 = .ok (.iload_n 1, 1) := by decide +kernel
theorem dX9_printProcess_32 : decode cX9_printProcess 32 = .ok (.iconst 0, 1) := by decide +kernel
theorem dX9_printProcess_33 : decode cX9_printProcess 33 = .ok (.invokevirtual 120, 3) := by decide +kernel
theorem dX9_printProcess_36 : decode cX9_printProcess 36 = .ok (.invokevirtual 453, 3) := by decide +kernel
theorem dX9_printProcess_39 : decode cX9_printProcess 39 = .ok (.aload_n 0, 1) := by decide +kernel
theorem dX9_printProcess_40 : decode cX9_printProcess 40 = .ok (.aload_n 0, 1) := by decide +kernel
theorem dX9_printProcess_41 : decode cX9_printProcess 41 = .ok (.iload_n 1, 1) := by decide +kernel
theorem dX9_printProcess_42 : decode cX9_printProcess 42 = .ok (.iconst 1, 1) := by decide +kernel
theorem dX9_printProcess_43 : decode cX9_printProcess 43 = .ok (.invokevirtual 120, 3) := by decide +kernel
theorem dX9_printProcess_46 : decode cX9_printProcess 46 = .ok (.invokevirtual 453, 3) := by decide +kernel
theorem dX9_printProcess_49 : decode cX9_printProcess 49 = .ok (.iconst 0, 1) := by decide +kernel
theorem dX9_printProcess_50 : decode cX9_printProcess 50 = .ok (.istore_n 2, 1) := by decide +kernel
theorem dX9_printProcess_51 : decode cX9_printProcess 51 = .ok (.iload_n 2, 1) := by decide +kernel
theorem dX9_printProcess_52 : decode cX9_printProcess 52 = .ok (.aload_n 0, 1) := by decide +kernel
theorem dX9_printProcess_53 : decode cX9_printProcess 53 = .ok (.getfield 13, 3) := by decide +kernel
theorem dX9_printProcess_56 : decode cX9_printProcess 56 = .ok (.bipush 6, 2) := by decide +kernel
theorem dX9_printProcess_58 : decode cX9_printProcess 58 = .ok (.iaload, 1) := by decide +kernel
theorem dX9_printProcess_59 : decode cX9_printProcess 59 = .ok (.if_icmp .ge 32, 3) := by decide +kernel
theorem dX9_printProcess_62 : decode cX9_printProcess 62 = .ok (.aload_n 0, 1) := by decide +kernel
theorem dX9_printProcess_63 : decode cX9_printProcess 63 = .ok (.iload_n 2, 1) := by decide +kernel
theorem dX9_printProcess_64 : decode cX9_printProcess 64 = .ok (.iconst 0, 1) := by decide +kernel
theorem dX9_printProcess_65 : decode cX9_printProcess 65 = .ok (.invokevirtual 106, 3) := by decide +kernel
theorem dX9_printProcess_68 : decode cX9_printProcess 68 = .ok (.iload_n 1, 1) := by decide +kernel
theorem dX9_printProcess_69 : decode cX9_printProcess 69 = .ok (.if_icmp .ne 16, 3) := by decide +kernel
theorem dX9_printProcess_72 : decode cX9_printProcess 72 = .ok (.aload_n 0, 1) := by decide +kernel
theorem dX9_printProcess_73 : decode cX9_printProcess 73 = .ok (.iload_n 2, 1) := by decide +kernel
theorem dX9_printProcess_74 : decode cX9_printProcess 74 = .ok (.invokevirtual 103, 3) := by decide +kernel
theorem dX9_printProcess_77 : decode cX9_printProcess 77 = .ok (.ifCond .le 8, 3) := by decide +kernel
theorem dX9_printProcess_80 : decode cX9_printProcess 80 = .ok (.aload_n 0, 1) := by decide +kernel
theorem dX9_printProcess_81 : decode cX9_printProcess 81 = .ok (.iload_n 2, 1) := by decide +kernel
theorem dX9_printProcess_82 : decode cX9_printProcess 82 = .ok (.invokevirtual 456, 3) := by decide +kernel
theorem dX9_printProcess_85 : decode cX9_printProcess 85 = .ok (.iinc 2 1, 3) := by decide +kernel
theorem dX9_printProcess_88 : decode cX9_printProcess 88 = .ok (.goto (-37), 3) := by decide +kernel
theorem dX9_printProcess_91 : decode cX9_printProcess 91 = .ok (.aload_n 0, 1) := by decide +kernel
theorem dX9_printProcess_92 : decode cX9_printProcess 92 = .ok (.getfield 438, 3) := by decide +kernel
theorem dX9_printProcess_95 : decode cX9_printProcess 95 = .ok (.ireturn, 1) := by decide +kernel
theorem dX9_meanLate_0 : decode cX9_meanLate 0 = .ok (.aload_n 0, 1) := by decide +kernel
theorem dX9_meanLate_1 : decode cX9_meanLate 1 = .ok (.iconst 0, 1) := by decide +kernel
theorem dX9_meanLate_2 : decode cX9_meanLate 2 = .ok (.putfield 67, 3) := by decide +kernel
theorem dX9_meanLate_5 : decode cX9_meanLate 5 = .ok (.iconst 0, 1) := by decide +kernel
theorem dX9_meanLate_6 : decode cX9_meanLate 6 = .ok (.istore_n 1, 1) := by decide +kernel
theorem dX9_meanLate_7 : decode cX9_meanLate 7 = .ok (.iconst 0, 1) := by decide +kernel
theorem dX9_meanLate_8 : decode cX9_meanLate 8 = .ok (.istore_n 2, 1) := by decide +kernel
theorem dX9_meanLate_9 : decode cX9_meanLate 9 = .ok (.iconst 0, 1) := by decide +kernel
theorem dX9_meanLate_10 : decode cX9_meanLate 10 = .ok (.istore_n 3, 1) := by decide +kernel
theorem dX9_meanLate_11 : decode cX9_meanLate 11 = .ok (.iload_n 3, 1) := by decide +kernel
theorem dX9_meanLate_12 : decode cX9_meanLate 12 = .ok (.aload_n 0, 1) := by decide +kernel
theorem dX9_meanLate_13 : decode cX9_meanLate 13 = .ok (.getfield 13, 3) := by decide +kernel
theorem dX9_meanLate_16 : decode cX9_meanLate 16 = .ok (.bipush 6, 2) := by decide +kernel
theorem dX9_meanLate_18 : decode cX9_meanLate 18 = .ok (.iaload, 1) := by decide +kernel
theorem dX9_meanLate_19 : decode cX9_meanLate 19 = .ok (.if_icmp .ge 40, 3) := by decide +kernel
theorem dX9_meanLate_22 : decode cX9_meanLate 22 = .ok (.aload_n 0, 1) := by decide +kernel
theorem dX9_meanLate_23 : decode cX9_meanLate 23 = .ok (.iload_n 3, 1) := by decide +kernel
theorem dX9_meanLate_24 : decode cX9_meanLate 24 = .ok (.invokevirtual 109, 3) := by decide +kernel
theorem dX9_meanLate_27 : decode cX9_meanLate 27 = .ok (.ifCond .ne 6, 3) := by decide +kernel
theorem dX9_meanLate_30 : decode cX9_meanLate 30 = .ok (.goto 23, 3) := by decide +kernel
theorem dX9_meanLate_33 : decode cX9_meanLate 33 = .ok (.iload_n 1, 1) := by decide +kernel
theorem dX9_meanLate_34 : decode cX9_meanLate 34 = .ok (.aload_n 0, 1) := by decide +kernel
theorem dX9_meanLate_35 : decode cX9_meanLate 35 = .ok (.getfield 13, 3) := by decide +kernel
theorem dX9_meanLate_38 : decode cX9_meanLate 38 = .ok (.iconst 0, 1) := by decide +kernel
theorem dX9_meanLate_39 : decode cX9_meanLate 39 = .ok (.iaload, 1) := by decide +kernel
theorem dX9_meanLate_40 : decode cX9_meanLate 40 = .ok (.iadd, 1) := by decide +kernel
theorem dX9_meanLate_41 : decode cX9_meanLate 41 = .ok (.aload_n 0, 1) := by decide +kernel
theorem dX9_meanLate_42 : decode cX9_meanLate 42 = .ok (.iload_n 3, 1) := by decide +kernel
theorem dX9_meanLate_43 : decode cX9_meanLate 43 = .ok (.iconst 1, 1) := by decide +kernel
theorem dX9_meanLate_44 : decode cX9_meanLate 44 = .ok (.invokevirtual 106, 3) := by decide +kernel
theorem dX9_meanLate_47 : decode cX9_meanLate 47 = .ok (.isub, 1) := by decide +kernel
theorem dX9_meanLate_48 : decode cX9_meanLate 48 = .ok (.istore_n 1, 1) := by decide +kernel
theorem dX9_meanLate_49 : decode cX9_meanLate 49 = .ok (.iload_n 2, 1) := by decide +kernel
theorem dX9_meanLate_50 : decode cX9_meanLate 50 = .ok (.iconst 1, 1) := by decide +kernel
theorem dX9_meanLate_51 : decode cX9_meanLate 51 = .ok (.iadd, 1) := by decide +kernel
theorem dX9_meanLate_52 : decode cX9_meanLate 52 = .ok (.istore_n 2, 1) := by decide +kernel
theorem dX9_meanLate_53 : decode cX9_meanLate 53 = .ok (.iinc 3 1, 3) := by decide +kernel
theorem dX9_meanLate_56 : decode cX9_meanLate 56 = .ok (.goto (-45), 3) := by decide +kernel
theorem dX9_meanLate_59 : decode cX9_meanLate 59 = .ok (.iload_n 2, 1) := by decide +kernel
theorem dX9_meanLate_60 : decode cX9_meanLate 60 = .ok (.ifCond .ne 7, 3) := by decide +kernel
theorem dX9_meanLate_63 : decode cX9_meanLate 63 = .ok (.dconst 0, 1) := by decide +kernel
theorem dX9_meanLate_64 : decode cX9_meanLate 64 = .ok (.goto 8, 3) := by decide +kernel
theorem dX9_meanLate_67 : decode cX9_meanLate 67 = .ok (.iload_n 1, 1) := by decide +kernel
theorem dX9_meanLate_68 : decode cX9_meanLate 68 = .ok (.i2d, 1) := by decide +kernel
theorem dX9_meanLate_69 : decode cX9_meanLate 69 = .ok (.iload_n 2, 1) := by decide +kernel
theorem dX9_meanLate_70 : decode cX9_meanLate 70 = .ok (.i2d, 1) := by decide +kernel
theorem dX9_meanLate_71 : decode cX9_meanLate 71 = .ok (.ddiv, 1) := by decide +kernel
theorem dX9_meanLate_72 : decode cX9_meanLate 72 = .ok (.dreturn, 1) := by decide +kernel
theorem dX9_metShare_0 : decode cX9_metShare 0 = .ok (.aload_n 0, 1) := by decide +kernel
theorem dX9_metShare_1 : decode cX9_metShare 1 = .ok (.iconst 0, 1) := by decide +kernel
theorem dX9_metShare_2 : decode cX9_metShare 2 = .ok (.putfield 67, 3) := by decide +kernel
theorem dX9_metShare_5 : decode cX9_metShare 5 = .ok (.aload_n 0, 1) := by decide +kernel
theorem dX9_metShare_6 : decode cX9_metShare 6 = .ok (.getfield 13, 3) := by decide +kernel
theorem dX9_metShare_9 : decode cX9_metShare 9 = .ok (.bipush 8, 2) := by decide +kernel
theorem dX9_metShare_11 : decode cX9_metShare 11 = .ok (.iaload, 1) := by decide +kernel
theorem dX9_metShare_12 : decode cX9_metShare 12 = .ok (.aload_n 0, 1) := by decide +kernel
theorem dX9_metShare_13 : decode cX9_metShare 13 = .ok (.getfield 13, 3) := by decide +kernel
theorem dX9_metShare_16 : decode cX9_metShare 16 = .ok (.bipush 9, 2) := by decide +kernel
theorem dX9_metShare_18 : decode cX9_metShare 18 = .ok (.iaload, 1) := by decide +kernel
theorem dX9_metShare_19 : decode cX9_metShare 19 = .ok (.iadd, 1) := by decide +kernel
theorem dX9_metShare_20 : decode cX9_metShare 20 = .ok (.istore_n 1, 1) := by decide +kernel
theorem dX9_metShare_21 : decode cX9_metShare 21 = .ok (.iload_n 1, 1) := by decide +kernel
theorem dX9_metShare_22 : decode cX9_metShare 22 = .ok (.ifCond .ne 7, 3) := by decide +kernel
theorem dX9_metShare_25 : decode cX9_metShare 25 = .ok (.fconst 0, 1) := by decide +kernel
theorem dX9_metShare_26 : decode cX9_metShare 26 = .ok (.goto 14, 3) := by decide +kernel
theorem dX9_metShare_29 : decode cX9_metShare 29 = .ok (.aload_n 0, 1) := by decide +kernel
theorem dX9_metShare_30 : decode cX9_metShare 30 = .ok (.getfield 13, 3) := by decide +kernel
theorem dX9_metShare_33 : decode cX9_metShare 33 = .ok (.bipush 8, 2) := by decide +kernel
theorem dX9_metShare_35 : decode cX9_metShare 35 = .ok (.iaload, 1) := by decide +kernel
theorem dX9_metShare_36 : decode cX9_metShare 36 = .ok (.i2f, 1) := by decide +kernel
theorem dX9_metShare_37 : decode cX9_metShare 37 = .ok (.iload_n 1, 1) := by decide +kernel
theorem dX9_metShare_38 : decode cX9_metShare 38 = .ok (.i2f, 1) := by decide +kernel
theorem dX9_metShare_39 : decode cX9_metShare 39 = .ok (.fdiv, 1) := by decide +kernel
theorem dX9_metShare_40 : decode cX9_metShare 40 = .ok (.freturn, 1) := by decide +kernel
theorem dX8_meanLate_0 : decode cX8_meanLate 0 = .ok (.aload_n 0, 1) := by decide +kernel
theorem dX8_meanLate_1 : decode cX8_meanLate 1 = .ok (.getfield 31, 3) := by decide +kernel
theorem dX8_meanLate_4 : decode cX8_meanLate 4 = .ok (.iconst (-1), 1) := by decide +kernel
theorem dX8_meanLate_5 : decode cX8_meanLate 5 = .ok (.invokevirtual 139, 3) := by decide +kernel
theorem dX8_meanLate_8 : decode cX8_meanLate 8 = .ok (.istore_n 1, 1) := by decide +kernel
theorem dX8_meanLate_9 : decode cX8_meanLate 9 = .ok (.iload_n 1, 1) := by decide +kernel
theorem dX8_meanLate_10 : decode cX8_meanLate 10 = .ok (.ifCond .ne 7, 3) := by decide +kernel
theorem dX8_meanLate_13 : decode cX8_meanLate 13 = .ok (.dconst 0, 1) := by decide +kernel
theorem dX8_meanLate_14 : decode cX8_meanLate 14 = .ok (.goto 14, 3) := by decide +kernel
theorem dX8_meanLate_17 : decode cX8_meanLate 17 = .ok (.aload_n 0, 1) := by decide +kernel
theorem dX8_meanLate_18 : decode cX8_meanLate 18 = .ok (.getfield 31, 3) := by decide +kernel
theorem dX8_meanLate_21 : decode cX8_meanLate 21 = .ok (.invokevirtual 272, 3) := by decide +kernel
theorem dX8_meanLate_24 : decode cX8_meanLate 24 = .ok (.i2d, 1) := by decide +kernel
theorem dX8_meanLate_25 : decode cX8_meanLate 25 = .ok (.iload_n 1, 1) := by decide +kernel
theorem dX8_meanLate_26 : decode cX8_meanLate 26 = .ok (.i2d, 1) := by decide +kernel
theorem dX8_meanLate_27 : decode cX8_meanLate 27 = .ok (.ddiv, 1) := by decide +kernel
theorem dX8_meanLate_28 : decode cX8_meanLate 28 = .ok (.dreturn, 1) := by decide +kernel
theorem dX8_metShare_0 : decode cX8_metShare 0 = .ok (.aload_n 0, 1) := by decide +kernel
theorem dX8_metShare_1 : decode cX8_metShare 1 = .ok (.getfield 31, 3) := by decide +kernel
theorem dX8_metShare_4 : decode cX8_metShare 4 = .ok (.iconst (-1), 1) := by decide +kernel
theorem dX8_metShare_5 : decode cX8_metShare 5 = .ok (.iconst 1, 1) := by decide +kernel
theorem dX8_metShare_6 : decode cX8_metShare 6 = .ok (.invokevirtual 145, 3) := by decide +kernel
theorem dX8_metShare_9 : decode cX8_metShare 9 = .ok (.istore_n 1, 1) := by decide +kernel
theorem dX8_metShare_10 : decode cX8_metShare 10 = .ok (.iload_n 1, 1) := by decide +kernel
theorem dX8_metShare_11 : decode cX8_metShare 11 = .ok (.aload_n 0, 1) := by decide +kernel
theorem dX8_metShare_12 : decode cX8_metShare 12 = .ok (.getfield 31, 3) := by decide +kernel
theorem dX8_metShare_15 : decode cX8_metShare 15 = .ok (.iconst (-1), 1) := by decide +kernel
theorem dX8_metShare_16 : decode cX8_metShare 16 = .ok (.iconst 2, 1) := by decide +kernel
theorem dX8_metShare_17 : decode cX8_metShare 17 = .ok (.invokevirtual 145, 3) := by decide +kernel
theorem dX8_metShare_20 : decode cX8_metShare 20 = .ok (.iadd, 1) := by decide +kernel
theorem dX8_metShare_21 : decode cX8_metShare 21 = .ok (.istore_n 2, 1) := by decide +kernel
theorem dX8_metShare_22 : decode cX8_metShare 22 = .ok (.iload_n 2, 1) := by decide +kernel
theorem dX8_metShare_23 : decode cX8_metShare 23 = .ok (.ifCond .ne 7, 3) := by decide +kernel
theorem dX8_metShare_26 : decode cX8_metShare 26 = .ok (.fconst 0, 1) := by decide +kernel
theorem dX8_metShare_27 : decode cX8_metShare 27 = .ok (.goto 8, 3) := by decide +kernel
theorem dX8_metShare_30 : decode cX8_metShare 30 = .ok (.iload_n 1, 1) := by decide +kernel
theorem dX8_metShare_31 : decode cX8_metShare 31 = .ok (.i2f, 1) := by decide +kernel
theorem dX8_metShare_32 : decode cX8_metShare 32 = .ok (.iload_n 2, 1) := by decide +kernel
theorem dX8_metShare_33 : decode cX8_metShare 33 = .ok (.i2f, 1) := by decide +kernel
theorem dX8_metShare_34 : decode cX8_metShare 34 = .ok (.fdiv, 1) := by decide +kernel
theorem dX8_metShare_35 : decode cX8_metShare 35 = .ok (.freturn, 1) := by decide +kernel
def f_X9_saysSpaced (n : Nat) (th_0 : OS) (v1_0 : Int32) : Option (OS) :=
  bnd (f_X9_says n th_0 (32 : Int32)) (fun (th_1 : OS) =>
  bnd (f_X9_saysNumber n 12 th_1 v1_0) (fun (th_2 : OS) =>
  some th_2))
set_option maxHeartbeats 4000000 in
set_option maxRecDepth 100000 in
theorem c_X9_saysSpaced (n : Nat) (l : Launch) (k : KT) (a_th : Nat → Nat) (th_0 : OS) (v1_0 : Int32) (res : (OS)) (hf : f_X9_saysSpaced n th_0 v1_0 = some res) : CG l k yX9_saysSpaced cX9_saysSpaced 2 none 13 0 0 285 [.ref (a_th 0), .int v1_0] (wModel k a_th th_0) (Qv k (fun u : OS => wModel k a_th u) (fun u : OS => res = u)) := by
  refine CG.ofV (by decide) (Nat.le_of_ble_eq_true rfl) (fun p e s m args below meth c A Q E hnm hW hA hret ls hl => ?_)
  have hl : lv_has ls 2 [(0, .ref (a_th 0)), (1, .int v1_0)] := hl
  unfold f_X9_saysSpaced at hf
  refine k_aload_n E hl 0 dX9_saysSpaced_0 rfl ?_
  refine lv_bipush (v := (32 : Int32)) E.hx E.hb dX9_saysSpaced_1 bp_32 ?_
  obtain ⟨th_1, hg, hf⟩ := ob hf
  refine k_callVv (As := [.int (32 : Int32)]) (rest := []) (ws2 := fun u => wModel k a_th (u)) (c_X9_says n l k a_th th_0 (32 : Int32) th_1 hg) E vl_X9_447 dX9_saysSpaced_3 rfl [0, 1, 2, 3, 4, 5, 6, 7, 8, 9, 10, 11, 12] 7 0 hW hA hl rfl rfl rfl rfl ⟨by decide, by decide⟩ ⟨by decide, by decide⟩ (Nat.le_of_ble_eq_true rfl) rfl (fun _ => rfl) (fun _ => rfl) (fun u H locs hp hW => ?_)
  cases hp
  have hW : WD k A s.heap (wModel k a_th th_1) H locs := hW
  refine k_aload_n E hl 0 dX9_saysSpaced_6 rfl ?_
  refine k_iload_n E hl 1 dX9_saysSpaced_7 rfl ?_
  obtain ⟨th_2, hg, hf⟩ := ob hf
  refine k_callVv (As := [.int v1_0]) (rest := []) (ws2 := fun u => wModel k a_th (u)) (c_X9_saysNumber n l k a_th 12 th_1 v1_0 th_2 hg) E vl_X9_450 dX9_saysSpaced_8 rfl [0, 1, 2, 3, 4, 5, 6, 7, 8, 9, 10, 11, 12] 7 0 hW hA hl rfl rfl rfl rfl ⟨by decide, by decide⟩ ⟨by decide, by decide⟩ (Nat.le_of_ble_eq_true rfl) rfl (fun _ => rfl) (fun _ => rfl) (fun u H locs hp hW => ?_)
  cases hp
  have hW : WD k A s.heap (wModel k a_th th_2) H locs := hW
  exact hret th_2 _ _ _ _ _ _ hW (Option.some.inj hf).symm (by decide) (by decide) dX9_saysSpaced_11
def f_X9_saysLoan (n : Nat) (th_0 : OS) (v1_0 : Int32) : Option (OS) :=
  bnd (f_X9_pagesOf n th_0 v1_0) (fun (r_1 : Int32) =>
  bnd (f_X9_saysSpaced n th_0 r_1) (fun (th_2 : OS) =>
  bnd (f_X9_says n th_2 (64 : Int32)) (fun (th_3 : OS) =>
  bnd (f_X9_loan0 n th_3 v1_0 (1 : Int32)) (fun (r_4 : Int32) =>
  bnd (f_X9_saysNumber n 12 th_3 r_4) (fun (th_5 : OS) =>
  bnd (f_X9_isBrokenLoan n th_5 v1_0) (fun (r_6 : Int32) =>
  if r_6 = 0 then (
  some th_5) else (
  bnd (f_X9_says n th_5 (33 : Int32)) (fun (th_7 : OS) =>
  some th_7))))))))
set_option maxHeartbeats 4000000 in
set_option maxRecDepth 100000 in
theorem c_X9_saysLoan (n : Nat) (l : Launch) (k : KT) (a_th : Nat → Nat) (th_0 : OS) (v1_0 : Int32) (res : (OS)) (hf : f_X9_saysLoan n th_0 v1_0 = some res) : CG l k yX9_saysLoan cX9_saysLoan 2 none 14 0 0 306 [.ref (a_th 0), .int v1_0] (wModel k a_th th_0) (Qv k (fun u : OS => wModel k a_th u) (fun u : OS => res = u)) := by
  refine CG.ofV (by decide) (Nat.le_of_ble_eq_true rfl) (fun p e s m args below meth c A Q E hnm hW hA hret ls hl => ?_)
  have hl : lv_has ls 2 [(0, .ref (a_th 0)), (1, .int v1_0)] := hl
  unfold f_X9_saysLoan at hf
  refine k_aload_n E hl 0 dX9_saysLoan_0 rfl ?_
  refine k_aload_n E hl 0 dX9_saysLoan_1 rfl ?_
  refine k_iload_n E hl 1 dX9_saysLoan_2 rfl ?_
  obtain ⟨r_1, hg, hf⟩ := ob hf
  refine k_callVi (As := [.int v1_0]) (rest := [.ref (a_th 0)]) (ws2 := fun u => wModel k a_th th_0) (c_X9_pagesOf n l k a_th th_0 v1_0 r_1 hg) E vl_X9_103 dX9_saysLoan_3 rfl [0, 1, 2, 3, 4, 5, 6, 7, 8, 9, 10, 11, 12] 7 0 hW hA hl rfl rfl rfl rfl ⟨by decide, by decide⟩ ⟨by decide, by decide⟩ (Nat.le_of_ble_eq_true rfl) rfl (fun _ => rfl) (fun _ => rfl) (fun r u H locs hp hW => ?_)
  cases hp
  have hW : WD k A s.heap (wModel k a_th th_0) H locs := hW
  obtain ⟨th_2, hg, hf⟩ := ob hf
  refine k_callVv (As := [.int r_1]) (rest := []) (ws2 := fun u => wModel k a_th (u)) (c_X9_saysSpaced n l k a_th th_0 r_1 th_2 hg) E vl_X9_453 dX9_saysLoan_6 rfl [0, 1, 2, 3, 4, 5, 6, 7, 8, 9, 10, 11, 12] 7 0 hW hA hl rfl rfl rfl rfl ⟨by decide, by decide⟩ ⟨by decide, by decide⟩ (Nat.le_of_ble_eq_true rfl) rfl (fun _ => rfl) (fun _ => rfl) (fun u H locs hp hW => ?_)
  cases hp
  have hW : WD k A s.heap (wModel k a_th th_2) H locs := hW
  refine k_aload_n E hl 0 dX9_saysLoan_9 rfl ?_
  refine lv_bipush (v := (64 : Int32)) E.hx E.hb dX9_saysLoan_10 bp_64 ?_
  obtain ⟨th_3, hg, hf⟩ := ob hf
  refine k_callVv (As := [.int (64 : Int32)]) (rest := []) (ws2 := fun u => wModel k a_th (u)) (c_X9_says n l k a_th th_2 (64 : Int32) th_3 hg) E vl_X9_447 dX9_saysLoan_12 rfl [0, 1, 2, 3, 4, 5, 6, 7, 8, 9, 10, 11, 12] 7 0 hW hA hl rfl rfl rfl rfl ⟨by decide, by decide⟩ ⟨by decide, by decide⟩ (Nat.le_of_ble_eq_true rfl) rfl (fun _ => rfl) (fun _ => rfl) (fun u H locs hp hW => ?_)
  cases hp
  have hW : WD k A s.heap (wModel k a_th th_3) H locs := hW
  refine k_aload_n E hl 0 dX9_saysLoan_15 rfl ?_
  refine k_aload_n E hl 0 dX9_saysLoan_16 rfl ?_
  refine k_iload_n E hl 1 dX9_saysLoan_17 rfl ?_
  refine lv_iconst (v := (1 : Int32)) E.hx E.hb dX9_saysLoan_18 ic_1 ?_
  obtain ⟨r_4, hg, hf⟩ := ob hf
  refine k_callVi (As := [.int v1_0, .int (1 : Int32)]) (rest := [.ref (a_th 0)]) (ws2 := fun u => wModel k a_th th_3) (c_X9_loan0 n l k a_th th_3 v1_0 (1 : Int32) r_4 hg) E vl_X9_106 dX9_saysLoan_19 rfl [0, 1, 2, 3, 4, 5, 6, 7, 8, 9, 10, 11, 12] 7 0 hW hA hl rfl rfl rfl rfl ⟨by decide, by decide⟩ ⟨by decide, by decide⟩ (Nat.le_of_ble_eq_true rfl) rfl (fun _ => rfl) (fun _ => rfl) (fun r u H locs hp hW => ?_)
  cases hp
  have hW : WD k A s.heap (wModel k a_th th_3) H locs := hW
  obtain ⟨th_5, hg, hf⟩ := ob hf
  refine k_callVv (As := [.int r_4]) (rest := []) (ws2 := fun u => wModel k a_th (u)) (c_X9_saysNumber n l k a_th 12 th_3 r_4 th_5 hg) E vl_X9_450 dX9_saysLoan_22 rfl [0, 1, 2, 3, 4, 5, 6, 7, 8, 9, 10, 11, 12] 7 0 hW hA hl rfl rfl rfl rfl ⟨by decide, by decide⟩ ⟨by decide, by decide⟩ (Nat.le_of_ble_eq_true rfl) rfl (fun _ => rfl) (fun _ => rfl) (fun u H locs hp hW => ?_)
  cases hp
  have hW : WD k A s.heap (wModel k a_th th_5) H locs := hW
  refine k_aload_n E hl 0 dX9_saysLoan_25 rfl ?_
  refine k_iload_n E hl 1 dX9_saysLoan_26 rfl ?_
  obtain ⟨r_6, hg, hf⟩ := ob hf
  refine k_callVi (As := [.int v1_0]) (rest := []) (ws2 := fun u => wModel k a_th th_5) (c_X9_isBrokenLoan n l k a_th th_5 v1_0 r_6 hg) E vl_X9_109 dX9_saysLoan_27 rfl [0, 1, 2, 3, 4, 5, 6, 7, 8, 9, 10, 11, 12] 7 0 hW hA hl rfl rfl rfl rfl ⟨by decide, by decide⟩ ⟨by decide, by decide⟩ (Nat.le_of_ble_eq_true rfl) rfl (fun _ => rfl) (fun _ => rfl) (fun r u H locs hp hW => ?_)
  cases hp
  have hW : WD k A s.heap (wModel k a_th th_5) H locs := hW
  refine lv_if_eq (tgt := 39) E.hx E.hb dX9_saysLoan_30 (by decide) (fun hc => ?_) (fun hc => ?_)
  · have hf := oT hc hf
    exact hret th_5 _ _ _ _ _ _ hW (Option.some.inj hf).symm (by decide) (by decide) dX9_saysLoan_39
  · have hf := oF hc hf
    refine k_aload_n E hl 0 dX9_saysLoan_33 rfl ?_
    refine lv_bipush (v := (33 : Int32)) E.hx E.hb dX9_saysLoan_34 bp_33 ?_
    obtain ⟨th_7, hg, hf⟩ := ob hf
    refine k_callVv (As := [.int (33 : Int32)]) (rest := []) (ws2 := fun u => wModel k a_th (u)) (c_X9_says n l k a_th th_5 (33 : Int32) th_7 hg) E vl_X9_447 dX9_saysLoan_36 rfl [0, 1, 2, 3, 4, 5, 6, 7, 8, 9, 10, 11, 12] 7 0 hW hA hl rfl rfl rfl rfl ⟨by decide, by decide⟩ ⟨by decide, by decide⟩ (Nat.le_of_ble_eq_true rfl) rfl (fun _ => rfl) (fun _ => rfl) (fun u H locs hp hW => ?_)
    cases hp
    have hW : WD k A s.heap (wModel k a_th th_7) H locs := hW
    exact hret th_7 _ _ _ _ _ _ hW (Option.some.inj hf).symm (by decide) (by decide) dX9_saysLoan_39
def s_X9_printProcess_51 (n : Nat) (w1_j51 : Int32) (rc_51 : (OS) → (Int32) → Option (OS × Int32)) (th_j51 : OS) (w2_j51 : Int32) : Option (OS × Int32) :=
  gI 1846 (6 : Int32) (Let ((th_j51.2.1 9) (6 : Int32).toNatClampNeg) (fun x_11 : Int32 =>
  if x_11 ≤ w2_j51 then (
  some (th_j51, (th_j51.1 40))) else (
  bnd (f_X9_loan0 n th_j51 w2_j51 (0 : Int32)) (fun (r_12 : Int32) =>
  if r_12 = w1_j51 then (
  bnd (f_X9_pagesOf n th_j51 w2_j51) (fun (r_14 : Int32) =>
  if r_14 ≤ 0 then (
  Let (w2_j51 + (1 : Int32)) (fun v2_15 : Int32 =>
  rc_51 th_j51 v2_15)) else (
  bnd (f_X9_saysLoan n th_j51 w2_j51) (fun (th_16 : OS) =>
  Let (w2_j51 + (1 : Int32)) (fun v2_17 : Int32 =>
  rc_51 th_16 v2_17))))) else (
  Let (w2_j51 + (1 : Int32)) (fun v2_13 : Int32 =>
  rc_51 th_j51 v2_13))))))
def l_X9_printProcess_51 (n : Nat) (w1_j51 : Int32) : Nat → (OS) → (Int32) → Option (OS × Int32)
  | 0 => fun _ _ => none
  | N + 1 => s_X9_printProcess_51 n w1_j51 (l_X9_printProcess_51 n w1_j51 N)
def f_X9_printProcess (n : Nat) (th_0 : OS) (v1_0 : Int32) : Option (OS × Int32) :=
  bnd (f_X9_isProcess n th_0 v1_0) (fun (r_1 : Int32) =>
  bnd2 (f_X9_is n th_0 r_1) (fun (th_2 : OS) (r_3 : Int32) =>
  if r_3 = 0 then (
  some (th_2, (0 : Int32))) else (
  Let (sI th_2 40 (0 : Int32)) (fun th_4 : OS =>
  gI 8 v1_0 (Let ((th_4.2.2.1 8) v1_0.toNatClampNeg) (fun x_5 : Int64 =>
  bnd (f_X9_saysName n 12 th_4 x_5) (fun (th_6 : OS) =>
  bnd (f_X9_process0 n th_6 v1_0 (0 : Int32)) (fun (r_7 : Int32) =>
  bnd (f_X9_saysSpaced n th_6 r_7) (fun (th_8 : OS) =>
  bnd (f_X9_process0 n th_8 v1_0 (1 : Int32)) (fun (r_9 : Int32) =>
  bnd (f_X9_saysSpaced n th_8 r_9) (fun (th_10 : OS) =>
  l_X9_printProcess_51 n v1_0 n th_10 (0 : Int32))))))))))))
set_option maxHeartbeats 4000000 in
set_option maxRecDepth 100000 in
theorem c_X9_printProcess (n : Nat) (l : Launch) (k : KT) (a_th : Nat → Nat) (th_0 : OS) (v1_0 : Int32) (res : (OS × Int32)) (hf : f_X9_printProcess n th_0 v1_0 = some res) : CG l k yX9_printProcess cX9_printProcess 3 (some .int) 15 0 0 327 [.ref (a_th 0), .int v1_0] (wModel k a_th th_0) (Qi k (fun u : OS => wModel k a_th u) (fun (r : Int32) (u : OS) => res = (u, r))) := by
  refine CG.ofI (by decide) (Nat.le_of_ble_eq_true rfl) (fun p e s m args below meth c A Q E hnm hW hA hret ls hl => ?_)
  have hl : lv_has ls 3 [(0, .ref (a_th 0)), (1, .int v1_0)] := hl
  unfold f_X9_printProcess at hf
  refine k_aload_n E hl 0 dX9_printProcess_0 rfl ?_
  refine k_aload_n E hl 0 dX9_printProcess_1 rfl ?_
  refine k_iload_n E hl 1 dX9_printProcess_2 rfl ?_
  obtain ⟨r_1, hg, hf⟩ := ob hf
  refine k_callVi (As := [.int v1_0]) (rest := [.ref (a_th 0)]) (ws2 := fun u => wModel k a_th th_0) (c_X9_isProcess n l k a_th th_0 v1_0 r_1 hg) E vl_X9_223 dX9_printProcess_3 rfl [0, 1, 2, 3, 4, 5, 6, 7, 8, 9, 10, 11, 12] 7 0 hW hA hl rfl rfl rfl rfl ⟨by decide, by decide⟩ ⟨by decide, by decide⟩ (Nat.le_of_ble_eq_true rfl) rfl (fun _ => rfl) (fun _ => rfl) (fun r u H locs hp hW => ?_)
  cases hp
  have hW : WD k A s.heap (wModel k a_th th_0) H locs := hW
  obtain ⟨th_2, r_3, hg, hf⟩ := ob2 hf
  refine k_callVi (As := [.int r_1]) (rest := []) (ws2 := fun u => wModel k a_th (u)) (c_X9_is n l k a_th th_0 r_1 (th_2, r_3) hg) E vl_X9_77 dX9_printProcess_6 rfl [0, 1, 2, 3, 4, 5, 6, 7, 8, 9, 10, 11, 12] 7 0 hW hA hl rfl rfl rfl rfl ⟨by decide, by decide⟩ ⟨by decide, by decide⟩ (Nat.le_of_ble_eq_true rfl) rfl (fun _ => rfl) (fun _ => rfl) (fun r u H locs hp hW => ?_)
  cases hp
  have hW : WD k A s.heap (wModel k a_th th_2) H locs := hW
  refine lv_if_ne (tgt := 14) E.hx E.hb dX9_printProcess_9 (by decide) (fun hc => ?_) (fun hc => ?_)
  · have hf := oF hc hf
    refine k_aload_n E hl 0 dX9_printProcess_14 rfl ?_
    refine lv_iconst (v := (0 : Int32)) E.hx E.hb dX9_printProcess_15 ic_0 ?_
    obtain ⟨th_4, eth_4, hf⟩ := oL hf
    refine pf_X9_438 (ws2 := wModel k a_th th_4) E hW 0 rfl rfl rfl (Nat.le_of_ble_eq_true rfl) dX9_printProcess_16 (by rw [eth_4]; rfl) (fun H locs hW => ?_)
    refine k_aload_n E hl 0 dX9_printProcess_19 rfl ?_
    refine k_aload_n E hl 0 dX9_printProcess_20 rfl ?_
    refine gf_X9_7 E hW 0 rfl rfl dX9_printProcess_21 ?_
    refine k_iload_n E hl 1 dX9_printProcess_24 rfl ?_
    obtain ⟨hin, hf⟩ := oI hf
    obtain ⟨x_5, ex_5, hf⟩ := oL hf
    refine k_lald E hW 1 rfl hin dX9_printProcess_25 ?_
    refine k_topl ex_5 ?_
    obtain ⟨th_6, hg, hf⟩ := ob hf
    refine k_callVv (As := [.long x_5]) (rest := []) (ws2 := fun u => wModel k a_th (u)) (c_X9_saysName n l k a_th 12 th_4 x_5 th_6 hg) E vl_X9_443 dX9_printProcess_26 rfl [0, 1, 2, 3, 4, 5, 6, 7, 8, 9, 10, 11, 12] 7 0 hW hA hl rfl rfl rfl rfl ⟨by decide, by decide⟩ ⟨by decide, by decide⟩ (Nat.le_of_ble_eq_true rfl) rfl (fun _ => rfl) (fun _ => rfl) (fun u H locs hp hW => ?_)
    cases hp
    have hW : WD k A s.heap (wModel k a_th th_6) H locs := hW
    refine k_aload_n E hl 0 dX9_printProcess_29 rfl ?_
    refine k_aload_n E hl 0 dX9_printProcess_30 rfl ?_
    refine k_iload_n E hl 1 dX9_printProcess_31 rfl ?_
    refine lv_iconst (v := (0 : Int32)) E.hx E.hb dX9_printProcess_32 ic_0 ?_
    obtain ⟨r_7, hg, hf⟩ := ob hf
    refine k_callVi (As := [.int v1_0, .int (0 : Int32)]) (rest := [.ref (a_th 0)]) (ws2 := fun u => wModel k a_th th_6) (c_X9_process0 n l k a_th th_6 v1_0 (0 : Int32) r_7 hg) E vl_X9_120 dX9_printProcess_33 rfl [0, 1, 2, 3, 4, 5, 6, 7, 8, 9, 10, 11, 12] 7 0 hW hA hl rfl rfl rfl rfl ⟨by decide, by decide⟩ ⟨by decide, by decide⟩ (Nat.le_of_ble_eq_true rfl) rfl (fun _ => rfl) (fun _ => rfl) (fun r u H locs hp hW => ?_)
    cases hp
    have hW : WD k A s.heap (wModel k a_th th_6) H locs := hW
    obtain ⟨th_8, hg, hf⟩ := ob hf
    refine k_callVv (As := [.int r_7]) (rest := []) (ws2 := fun u => wModel k a_th (u)) (c_X9_saysSpaced n l k a_th th_6 r_7 th_8 hg) E vl_X9_453 dX9_printProcess_36 rfl [0, 1, 2, 3, 4, 5, 6, 7, 8, 9, 10, 11, 12] 7 0 hW hA hl rfl rfl rfl rfl ⟨by decide, by decide⟩ ⟨by decide, by decide⟩ (Nat.le_of_ble_eq_true rfl) rfl (fun _ => rfl) (fun _ => rfl) (fun u H locs hp hW => ?_)
    cases hp
    have hW : WD k A s.heap (wModel k a_th th_8) H locs := hW
    refine k_aload_n E hl 0 dX9_printProcess_39 rfl ?_
    refine k_aload_n E hl 0 dX9_printProcess_40 rfl ?_
    refine k_iload_n E hl 1 dX9_printProcess_41 rfl ?_
    refine lv_iconst (v := (1 : Int32)) E.hx E.hb dX9_printProcess_42 ic_1 ?_
    obtain ⟨r_9, hg, hf⟩ := ob hf
    refine k_callVi (As := [.int v1_0, .int (1 : Int32)]) (rest := [.ref (a_th 0)]) (ws2 := fun u => wModel k a_th th_8) (c_X9_process0 n l k a_th th_8 v1_0 (1 : Int32) r_9 hg) E vl_X9_120 dX9_printProcess_43 rfl [0, 1, 2, 3, 4, 5, 6, 7, 8, 9, 10, 11, 12] 7 0 hW hA hl rfl rfl rfl rfl ⟨by decide, by decide⟩ ⟨by decide, by decide⟩ (Nat.le_of_ble_eq_true rfl) rfl (fun _ => rfl) (fun _ => rfl) (fun r u H locs hp hW => ?_)
    cases hp
    have hW : WD k A s.heap (wModel k a_th th_8) H locs := hW
    obtain ⟨th_10, hg, hf⟩ := ob hf
    refine k_callVv (As := [.int r_9]) (rest := []) (ws2 := fun u => wModel k a_th (u)) (c_X9_saysSpaced n l k a_th th_8 r_9 th_10 hg) E vl_X9_453 dX9_printProcess_46 rfl [0, 1, 2, 3, 4, 5, 6, 7, 8, 9, 10, 11, 12] 7 0 hW hA hl rfl rfl rfl rfl ⟨by decide, by decide⟩ ⟨by decide, by decide⟩ (Nat.le_of_ble_eq_true rfl) rfl (fun _ => rfl) (fun _ => rfl) (fun u H locs hp hW => ?_)
    cases hp
    have hW : WD k A s.heap (wModel k a_th th_10) H locs := hW
    refine lv_iconst (v := (0 : Int32)) E.hx E.hb dX9_printProcess_49 ic_0 ?_
    refine k_istore_n (lv' := [(2, .int (0 : Int32)), (0, .ref (a_th 0)), (1, .int v1_0)]) E rfl hl dX9_printProcess_50 rfl (by decide) rfl (fun ls hl => ?_)
    have L_51 : ∀ (N_51 : Nat) (th_j51 : OS) (w2_j51 : Int32) (H : Heap) (locs : List Loc) (ls : Array Slot) (hW : WD k A s.heap (wModel k a_th th_j51) H locs) (hl : lv_has ls 3 [(0, .ref (a_th 0)), (1, .int v1_0), (2, .int w2_j51)]) (hf : l_X9_printProcess_51 n v1_0 N_51 th_j51 w2_j51 = some res), W p l e { frames := 15, cells := 0, slots := 0, locals := 327 } s m args below meth c H locs 0 0 Q (F0 m 51 ls []) := by
      intro N_51
      induction N_51 with
      | zero => intro th_j51 w2_j51 H locs ls hW hl hf; exact o0 hf
      | succ N_51 ih_51 =>
        intro th_j51 w2_j51 H locs ls hW hl hf
        have hf : s_X9_printProcess_51 n v1_0 (l_X9_printProcess_51 n v1_0 N_51) th_j51 w2_j51 = some res := hf
        unfold s_X9_printProcess_51 at hf
        refine k_iload_n E hl 2 dX9_printProcess_51 rfl ?_
        refine k_aload_n E hl 0 dX9_printProcess_52 rfl ?_
        refine gf_X9_13 E hW 0 rfl rfl dX9_printProcess_53 ?_
        refine lv_bipush (v := (6 : Int32)) E.hx E.hb dX9_printProcess_56 bp_6 ?_
        obtain ⟨hin, hf⟩ := oI hf
        obtain ⟨x_11, ex_11, hf⟩ := oL hf
        refine k_iald E hW 2 rfl hin dX9_printProcess_58 ?_
        refine k_topi ex_11 ?_
        refine lv_icmp_ge (tgt := 91) E.hx E.hb dX9_printProcess_59 (by decide) (fun hc => ?_) (fun hc => ?_)
        · have hf := oT hc hf
          refine k_aload_n E hl 0 dX9_printProcess_91 rfl ?_
          refine gf_X9_438 E hW 0 rfl rfl dX9_printProcess_92 ?_
          exact hret _ th_j51 _ _ _ _ _ _ hW (Option.some.inj hf).symm rfl (by decide) (by decide) dX9_printProcess_95
        · have hf := oF hc hf
          refine k_aload_n E hl 0 dX9_printProcess_62 rfl ?_
          refine k_iload_n E hl 2 dX9_printProcess_63 rfl ?_
          refine lv_iconst (v := (0 : Int32)) E.hx E.hb dX9_printProcess_64 ic_0 ?_
          obtain ⟨r_12, hg, hf⟩ := ob hf
          refine k_callVi (As := [.int w2_j51, .int (0 : Int32)]) (rest := []) (ws2 := fun u => wModel k a_th th_j51) (c_X9_loan0 n l k a_th th_j51 w2_j51 (0 : Int32) r_12 hg) E vl_X9_106 dX9_printProcess_65 rfl [0, 1, 2, 3, 4, 5, 6, 7, 8, 9, 10, 11, 12] 7 0 hW hA hl rfl rfl rfl rfl ⟨by decide, by decide⟩ ⟨by decide, by decide⟩ (Nat.le_of_ble_eq_true rfl) rfl (fun _ => rfl) (fun _ => rfl) (fun r u H locs hp hW => ?_)
          cases hp
          have hW : WD k A s.heap (wModel k a_th th_j51) H locs := hW
          refine k_iload_n E hl 1 dX9_printProcess_68 rfl ?_
          refine lv_icmp_ne (tgt := 85) E.hx E.hb dX9_printProcess_69 (by decide) (fun hc => ?_) (fun hc => ?_)
          · have hf := oF hc hf
            obtain ⟨v2_13, ev2_13, hf⟩ := oL hf
            refine k_iinc (lv' := [(2, .int v2_13), (0, .ref (a_th 0)), (1, .int v1_0)]) E hl 2 dX9_printProcess_85 rfl (ev2_13.trans (congrArg (fun z => w2_j51 + z) ic_1.symm)) (by decide) rfl (fun ls hl => ?_)
            refine lv_goto (tgt := 51) E.hx E.hb dX9_printProcess_88 (by decide) ?_
            exact ih_51 th_j51 v2_13 _ _ _ hW (lv_sub hl [1, 2, 0] rfl) hf
          · have hf := oT hc hf
            refine k_aload_n E hl 0 dX9_printProcess_72 rfl ?_
            refine k_iload_n E hl 2 dX9_printProcess_73 rfl ?_
            obtain ⟨r_14, hg, hf⟩ := ob hf
            refine k_callVi (As := [.int w2_j51]) (rest := []) (ws2 := fun u => wModel k a_th th_j51) (c_X9_pagesOf n l k a_th th_j51 w2_j51 r_14 hg) E vl_X9_103 dX9_printProcess_74 rfl [0, 1, 2, 3, 4, 5, 6, 7, 8, 9, 10, 11, 12] 7 0 hW hA hl rfl rfl rfl rfl ⟨by decide, by decide⟩ ⟨by decide, by decide⟩ (Nat.le_of_ble_eq_true rfl) rfl (fun _ => rfl) (fun _ => rfl) (fun r u H locs hp hW => ?_)
            cases hp
            have hW : WD k A s.heap (wModel k a_th th_j51) H locs := hW
            refine lv_if_le (tgt := 85) E.hx E.hb dX9_printProcess_77 (by decide) (fun hc => ?_) (fun hc => ?_)
            · have hf := oT hc hf
              obtain ⟨v2_15, ev2_15, hf⟩ := oL hf
              refine k_iinc (lv' := [(2, .int v2_15), (0, .ref (a_th 0)), (1, .int v1_0)]) E hl 2 dX9_printProcess_85 rfl (ev2_15.trans (congrArg (fun z => w2_j51 + z) ic_1.symm)) (by decide) rfl (fun ls hl => ?_)
              refine lv_goto (tgt := 51) E.hx E.hb dX9_printProcess_88 (by decide) ?_
              exact ih_51 th_j51 v2_15 _ _ _ hW (lv_sub hl [1, 2, 0] rfl) hf
            · have hf := oF hc hf
              refine k_aload_n E hl 0 dX9_printProcess_80 rfl ?_
              refine k_iload_n E hl 2 dX9_printProcess_81 rfl ?_
              obtain ⟨th_16, hg, hf⟩ := ob hf
              refine k_callVv (As := [.int w2_j51]) (rest := []) (ws2 := fun u => wModel k a_th (u)) (c_X9_saysLoan n l k a_th th_j51 w2_j51 th_16 hg) E vl_X9_456 dX9_printProcess_82 rfl [0, 1, 2, 3, 4, 5, 6, 7, 8, 9, 10, 11, 12] 7 0 hW hA hl rfl rfl rfl rfl ⟨by decide, by decide⟩ ⟨by decide, by decide⟩ (Nat.le_of_ble_eq_true rfl) rfl (fun _ => rfl) (fun _ => rfl) (fun u H locs hp hW => ?_)
              cases hp
              have hW : WD k A s.heap (wModel k a_th th_16) H locs := hW
              obtain ⟨v2_17, ev2_17, hf⟩ := oL hf
              refine k_iinc (lv' := [(2, .int v2_17), (0, .ref (a_th 0)), (1, .int v1_0)]) E hl 2 dX9_printProcess_85 rfl (ev2_17.trans (congrArg (fun z => w2_j51 + z) ic_1.symm)) (by decide) rfl (fun ls hl => ?_)
              refine lv_goto (tgt := 51) E.hx E.hb dX9_printProcess_88 (by decide) ?_
              exact ih_51 th_16 v2_17 _ _ _ hW (lv_sub hl [1, 2, 0] rfl) hf
    exact L_51 n th_10 (0 : Int32) _ _ _ hW (lv_sub hl [1, 2, 0] rfl) hf
  · have hf := oT hc hf
    refine lv_iconst (v := (0 : Int32)) E.hx E.hb dX9_printProcess_12 ic_0 ?_
    exact hret _ th_2 _ _ _ _ _ _ hW (Option.some.inj hf).symm rfl (by decide) (by decide) dX9_printProcess_13
def j_X9_meanLate_59 (n : Nat) (th_j59 : OS) (w1_j59 : Int32) (w2_j59 : Int32) : Option (OS × UInt64) :=
  if w2_j59 = 0 then (
  some (th_j59, (0 : UInt64))) else (
  nN64 (FP.ddiv (FP.i2d w1_j59) (FP.i2d w2_j59)) (
  some (th_j59, (FP.ddiv (FP.i2d w1_j59) (FP.i2d w2_j59)))))
def s_X9_meanLate_11 (n : Nat) (rc_11 : (OS) → (Int32) → (Int32) → (Int32) → Option (OS × UInt64)) (th_j11 : OS) (w1_j11 : Int32) (w2_j11 : Int32) (w3_j11 : Int32) : Option (OS × UInt64) :=
  gI 1846 (6 : Int32) (Let ((th_j11.2.1 9) (6 : Int32).toNatClampNeg) (fun x_2 : Int32 =>
  if x_2 ≤ w3_j11 then (
  j_X9_meanLate_59 n th_j11 w1_j11 w2_j11) else (
  bnd (f_X9_isBrokenLoan n th_j11 w3_j11) (fun (r_3 : Int32) =>
  if r_3 = 0 then (
  Let (w3_j11 + (1 : Int32)) (fun v3_9 : Int32 =>
  rc_11 th_j11 w1_j11 w2_j11 v3_9)) else (
  gI 1846 (0 : Int32) (Let ((th_j11.2.1 9) (0 : Int32).toNatClampNeg) (fun x_4 : Int32 =>
  bnd (f_X9_loan0 n th_j11 w3_j11 (1 : Int32)) (fun (r_5 : Int32) =>
  Let ((w1_j11 + x_4) - r_5) (fun v1_6 : Int32 =>
  Let (w2_j11 + (1 : Int32)) (fun v2_7 : Int32 =>
  Let (w3_j11 + (1 : Int32)) (fun v3_8 : Int32 =>
  rc_11 th_j11 v1_6 v2_7 v3_8)))))))))))
def l_X9_meanLate_11 (n : Nat) : Nat → (OS) → (Int32) → (Int32) → (Int32) → Option (OS × UInt64)
  | 0 => fun _ _ _ _ => none
  | N + 1 => s_X9_meanLate_11 n (l_X9_meanLate_11 n N)
def f_X9_meanLate (n : Nat) (th_0 : OS) : Option (OS × UInt64) :=
  Let (sI th_0 0 (0 : Int32)) (fun th_1 : OS =>
  l_X9_meanLate_11 n n th_1 (0 : Int32) (0 : Int32) (0 : Int32))
set_option maxHeartbeats 4000000 in
set_option maxRecDepth 100000 in
theorem c_X9_meanLate (n : Nat) (l : Launch) (k : KT) (a_th : Nat → Nat) (th_0 : OS) (res : (OS × UInt64)) (hf : f_X9_meanLate n th_0 = some res) : CG l k yX9_meanLate cX9_meanLate 4 (some .double) 2 0 0 44 [.ref (a_th 0)] (wModel k a_th th_0) (Qd k (fun u : OS => wModel k a_th u) (fun (r : UInt64) (u : OS) => res = (u, r))) := by
  refine CG.ofD (by decide) (Nat.le_of_ble_eq_true rfl) (fun p e s m args below meth c A Q E hnm hW hA hret ls hl => ?_)
  have hl : lv_has ls 4 [(0, .ref (a_th 0))] := hl
  unfold f_X9_meanLate at hf
  refine k_aload_n E hl 0 dX9_meanLate_0 rfl ?_
  refine lv_iconst (v := (0 : Int32)) E.hx E.hb dX9_meanLate_1 ic_0 ?_
  obtain ⟨th_1, eth_1, hf⟩ := oL hf
  refine pf_X9_67 (ws2 := wModel k a_th th_1) E hW 0 rfl rfl rfl (Nat.le_of_ble_eq_true rfl) dX9_meanLate_2 (by rw [eth_1]; rfl) (fun H locs hW => ?_)
  refine lv_iconst (v := (0 : Int32)) E.hx E.hb dX9_meanLate_5 ic_0 ?_
  refine k_istore_n (lv' := [(1, .int (0 : Int32)), (0, .ref (a_th 0))]) E rfl hl dX9_meanLate_6 rfl (by decide) rfl (fun ls hl => ?_)
  refine lv_iconst (v := (0 : Int32)) E.hx E.hb dX9_meanLate_7 ic_0 ?_
  refine k_istore_n (lv' := [(2, .int (0 : Int32)), (1, .int (0 : Int32)), (0, .ref (a_th 0))]) E rfl hl dX9_meanLate_8 rfl (by decide) rfl (fun ls hl => ?_)
  refine lv_iconst (v := (0 : Int32)) E.hx E.hb dX9_meanLate_9 ic_0 ?_
  refine k_istore_n (lv' := [(3, .int (0 : Int32)), (2, .int (0 : Int32)), (1, .int (0 : Int32)), (0, .ref (a_th 0))]) E rfl hl dX9_meanLate_10 rfl (by decide) rfl (fun ls hl => ?_)
  have L_11 : ∀ (N_11 : Nat) (th_j11 : OS) (w1_j11 : Int32) (w2_j11 : Int32) (w3_j11 : Int32) (H : Heap) (locs : List Loc) (ls : Array Slot) (hW : WD k A s.heap (wModel k a_th th_j11) H locs) (hl : lv_has ls 4 [(0, .ref (a_th 0)), (1, .int w1_j11), (2, .int w2_j11), (3, .int w3_j11)]) (hf : l_X9_meanLate_11 n N_11 th_j11 w1_j11 w2_j11 w3_j11 = some res), W p l e { frames := 2, cells := 0, slots := 0, locals := 44 } s m args below meth c H locs 0 0 Q (F0 m 11 ls []) := by
    intro N_11
    induction N_11 with
    | zero => intro th_j11 w1_j11 w2_j11 w3_j11 H locs ls hW hl hf; exact o0 hf
    | succ N_11 ih_11 =>
      intro th_j11 w1_j11 w2_j11 w3_j11 H locs ls hW hl hf
      have hf : s_X9_meanLate_11 n  (l_X9_meanLate_11 n N_11) th_j11 w1_j11 w2_j11 w3_j11 = some res := hf
      unfold s_X9_meanLate_11 at hf
      refine k_iload_n E hl 3 dX9_meanLate_11 rfl ?_
      refine k_aload_n E hl 0 dX9_meanLate_12 rfl ?_
      refine gf_X9_13 E hW 0 rfl rfl dX9_meanLate_13 ?_
      refine lv_bipush (v := (6 : Int32)) E.hx E.hb dX9_meanLate_16 bp_6 ?_
      obtain ⟨hin, hf⟩ := oI hf
      obtain ⟨x_2, ex_2, hf⟩ := oL hf
      refine k_iald E hW 2 rfl hin dX9_meanLate_18 ?_
      refine k_topi ex_2 ?_
      have J_59 : ∀ (th_j59 : OS) (w1_j59 : Int32) (w2_j59 : Int32) (H : Heap) (locs : List Loc) (ls : Array Slot) (hW : WD k A s.heap (wModel k a_th th_j59) H locs) (hl : lv_has ls 4 [(1, .int w1_j59), (2, .int w2_j59)]) (hf : j_X9_meanLate_59 n  th_j59 w1_j59 w2_j59 = some res), W p l e { frames := 2, cells := 0, slots := 0, locals := 44 } s m args below meth c H locs 0 0 Q (F0 m 59 ls []) := by
        intro th_j59 w1_j59 w2_j59 H locs ls hW hl hf
        unfold j_X9_meanLate_59 at hf
        refine k_iload_n E hl 1 dX9_meanLate_59 rfl ?_
        refine lv_if_ne (tgt := 67) E.hx E.hb dX9_meanLate_60 (by decide) (fun hc => ?_) (fun hc => ?_)
        · have hf := oF hc hf
          refine k_iload_n E hl 0 dX9_meanLate_67 rfl ?_
          refine lv_i2d E.hx E.hb dX9_meanLate_68 ?_
          refine k_iload_n E hl 1 dX9_meanLate_69 rfl ?_
          refine lv_i2d E.hx E.hb dX9_meanLate_70 ?_
          obtain ⟨hnan, hf⟩ := oNN64 hf
          refine lv_ddiv E.hx E.hb dX9_meanLate_71 hnan ?_
          exact hret _ th_j59 _ _ _ _ _ _ hW (Option.some.inj hf).symm (by decide) (by decide) dX9_meanLate_72
        · have hf := oT hc hf
          refine lv_dconst0 E.hx E.hb dX9_meanLate_63 ?_
          refine lv_goto (tgt := 72) E.hx E.hb dX9_meanLate_64 (by decide) ?_
          exact hret _ th_j59 _ _ _ _ _ _ hW (Option.some.inj hf).symm (by decide) (by decide) dX9_meanLate_72
      refine lv_icmp_ge (tgt := 59) E.hx E.hb dX9_meanLate_19 (by decide) (fun hc => ?_) (fun hc => ?_)
      · have hf := oT hc hf
        exact J_59 th_j11 w1_j11 w2_j11 _ _ _ hW (lv_sub hl [1, 2] rfl) hf
      · have hf := oF hc hf
        refine k_aload_n E hl 0 dX9_meanLate_22 rfl ?_
        refine k_iload_n E hl 3 dX9_meanLate_23 rfl ?_
        obtain ⟨r_3, hg, hf⟩ := ob hf
        refine k_callVi (As := [.int w3_j11]) (rest := []) (ws2 := fun u => wModel k a_th th_j11) (c_X9_isBrokenLoan n l k a_th th_j11 w3_j11 r_3 hg) E vl_X9_109 dX9_meanLate_24 rfl [0, 1, 2, 3, 4, 5, 6, 7, 8, 9, 10, 11, 12] 7 0 hW hA hl rfl rfl rfl rfl ⟨by decide, by decide⟩ ⟨by decide, by decide⟩ (Nat.le_of_ble_eq_true rfl) rfl (fun _ => rfl) (fun _ => rfl) (fun r u H locs hp hW => ?_)
        cases hp
        have hW : WD k A s.heap (wModel k a_th th_j11) H locs := hW
        refine lv_if_ne (tgt := 33) E.hx E.hb dX9_meanLate_27 (by decide) (fun hc => ?_) (fun hc => ?_)
        · have hf := oF hc hf
          refine k_iload_n E hl 1 dX9_meanLate_33 rfl ?_
          refine k_aload_n E hl 0 dX9_meanLate_34 rfl ?_
          refine gf_X9_13 E hW 0 rfl rfl dX9_meanLate_35 ?_
          refine lv_iconst (v := (0 : Int32)) E.hx E.hb dX9_meanLate_38 ic_0 ?_
          obtain ⟨hin, hf⟩ := oI hf
          obtain ⟨x_4, ex_4, hf⟩ := oL hf
          refine k_iald E hW 2 rfl hin dX9_meanLate_39 ?_
          refine k_topi ex_4 ?_
          refine lv_iadd E.hx E.hb dX9_meanLate_40 ?_
          refine k_aload_n E hl 0 dX9_meanLate_41 rfl ?_
          refine k_iload_n E hl 3 dX9_meanLate_42 rfl ?_
          refine lv_iconst (v := (1 : Int32)) E.hx E.hb dX9_meanLate_43 ic_1 ?_
          obtain ⟨r_5, hg, hf⟩ := ob hf
          refine k_callVi (As := [.int w3_j11, .int (1 : Int32)]) (rest := [.int (w1_j11 + x_4)]) (ws2 := fun u => wModel k a_th th_j11) (c_X9_loan0 n l k a_th th_j11 w3_j11 (1 : Int32) r_5 hg) E vl_X9_106 dX9_meanLate_44 rfl [0, 1, 2, 3, 4, 5, 6, 7, 8, 9, 10, 11, 12] 7 0 hW hA hl rfl rfl rfl rfl ⟨by decide, by decide⟩ ⟨by decide, by decide⟩ (Nat.le_of_ble_eq_true rfl) rfl (fun _ => rfl) (fun _ => rfl) (fun r u H locs hp hW => ?_)
          cases hp
          have hW : WD k A s.heap (wModel k a_th th_j11) H locs := hW
          refine lv_isub E.hx E.hb dX9_meanLate_47 ?_
          obtain ⟨v1_6, ev1_6, hf⟩ := oL hf
          refine k_istore_n (lv' := [(1, .int v1_6), (0, .ref (a_th 0)), (2, .int w2_j11), (3, .int w3_j11)]) E ev1_6 hl dX9_meanLate_48 rfl (by decide) rfl (fun ls hl => ?_)
          refine k_iload_n E hl 2 dX9_meanLate_49 rfl ?_
          refine lv_iconst (v := (1 : Int32)) E.hx E.hb dX9_meanLate_50 ic_1 ?_
          refine lv_iadd E.hx E.hb dX9_meanLate_51 ?_
          obtain ⟨v2_7, ev2_7, hf⟩ := oL hf
          refine k_istore_n (lv' := [(2, .int v2_7), (1, .int v1_6), (0, .ref (a_th 0)), (3, .int w3_j11)]) E ev2_7 hl dX9_meanLate_52 rfl (by decide) rfl (fun ls hl => ?_)
          obtain ⟨v3_8, ev3_8, hf⟩ := oL hf
          refine k_iinc (lv' := [(3, .int v3_8), (2, .int v2_7), (1, .int v1_6), (0, .ref (a_th 0))]) E hl 3 dX9_meanLate_53 rfl (ev3_8.trans (congrArg (fun z => w3_j11 + z) ic_1.symm)) (by decide) rfl (fun ls hl => ?_)
          refine lv_goto (tgt := 11) E.hx E.hb dX9_meanLate_56 (by decide) ?_
          exact ih_11 th_j11 v1_6 v2_7 v3_8 _ _ _ hW (lv_sub hl [3, 2, 1, 0] rfl) hf
        · have hf := oT hc hf
          refine lv_goto (tgt := 53) E.hx E.hb dX9_meanLate_30 (by decide) ?_
          obtain ⟨v3_9, ev3_9, hf⟩ := oL hf
          refine k_iinc (lv' := [(3, .int v3_9), (0, .ref (a_th 0)), (1, .int w1_j11), (2, .int w2_j11)]) E hl 3 dX9_meanLate_53 rfl (ev3_9.trans (congrArg (fun z => w3_j11 + z) ic_1.symm)) (by decide) rfl (fun ls hl => ?_)
          refine lv_goto (tgt := 11) E.hx E.hb dX9_meanLate_56 (by decide) ?_
          exact ih_11 th_j11 w1_j11 w2_j11 v3_9 _ _ _ hW (lv_sub hl [1, 2, 3, 0] rfl) hf
  exact L_11 n th_1 (0 : Int32) (0 : Int32) (0 : Int32) _ _ _ hW (lv_sub hl [3, 2, 1, 0] rfl) hf
def f_X9_metShare (n : Nat) (th_0 : OS) : Option (OS × UInt32) :=
  Let (sI th_0 0 (0 : Int32)) (fun th_1 : OS =>
  gI 1846 (8 : Int32) (Let ((th_1.2.1 9) (8 : Int32).toNatClampNeg) (fun x_2 : Int32 =>
  gI 1846 (9 : Int32) (Let ((th_1.2.1 9) (9 : Int32).toNatClampNeg) (fun x_3 : Int32 =>
  Let (x_2 + x_3) (fun v1_4 : Int32 =>
  if v1_4 = 0 then (
  some (th_1, (0 : UInt32))) else (
  gI 1846 (8 : Int32) (Let ((th_1.2.1 9) (8 : Int32).toNatClampNeg) (fun x_5 : Int32 =>
  nN32 (FP.fdiv (FP.i2f x_5) (FP.i2f v1_4)) (
  some (th_1, (FP.fdiv (FP.i2f x_5) (FP.i2f v1_4)))))))))))))
set_option maxHeartbeats 4000000 in
set_option maxRecDepth 100000 in
theorem c_X9_metShare (n : Nat) (l : Launch) (k : KT) (a_th : Nat → Nat) (th_0 : OS) (res : (OS × UInt32)) (hf : f_X9_metShare n th_0 = some res) : CG l k yX9_metShare cX9_metShare 2 (some .float) 0 0 0 0 [.ref (a_th 0)] (wModel k a_th th_0) (Qf k (fun u : OS => wModel k a_th u) (fun (r : UInt32) (u : OS) => res = (u, r))) := by
  refine CG.ofFl (by decide) (Nat.le_of_ble_eq_true rfl) (fun p e s m args below meth c A Q E hnm hW hA hret ls hl => ?_)
  have hl : lv_has ls 2 [(0, .ref (a_th 0))] := hl
  unfold f_X9_metShare at hf
  refine k_aload_n E hl 0 dX9_metShare_0 rfl ?_
  refine lv_iconst (v := (0 : Int32)) E.hx E.hb dX9_metShare_1 ic_0 ?_
  obtain ⟨th_1, eth_1, hf⟩ := oL hf
  refine pf_X9_67 (ws2 := wModel k a_th th_1) E hW 0 rfl rfl rfl (Nat.le_of_ble_eq_true rfl) dX9_metShare_2 (by rw [eth_1]; rfl) (fun H locs hW => ?_)
  refine k_aload_n E hl 0 dX9_metShare_5 rfl ?_
  refine gf_X9_13 E hW 0 rfl rfl dX9_metShare_6 ?_
  refine lv_bipush (v := (8 : Int32)) E.hx E.hb dX9_metShare_9 bp_8 ?_
  obtain ⟨hin, hf⟩ := oI hf
  obtain ⟨x_2, ex_2, hf⟩ := oL hf
  refine k_iald E hW 2 rfl hin dX9_metShare_11 ?_
  refine k_topi ex_2 ?_
  refine k_aload_n E hl 0 dX9_metShare_12 rfl ?_
  refine gf_X9_13 E hW 0 rfl rfl dX9_metShare_13 ?_
  refine lv_bipush (v := (9 : Int32)) E.hx E.hb dX9_metShare_16 bp_9 ?_
  obtain ⟨hin, hf⟩ := oI hf
  obtain ⟨x_3, ex_3, hf⟩ := oL hf
  refine k_iald E hW 2 rfl hin dX9_metShare_18 ?_
  refine k_topi ex_3 ?_
  refine lv_iadd E.hx E.hb dX9_metShare_19 ?_
  obtain ⟨v1_4, ev1_4, hf⟩ := oL hf
  refine k_istore_n (lv' := [(1, .int v1_4), (0, .ref (a_th 0))]) E ev1_4 hl dX9_metShare_20 rfl (by decide) rfl (fun ls hl => ?_)
  refine k_iload_n E hl 0 dX9_metShare_21 rfl ?_
  refine lv_if_ne (tgt := 29) E.hx E.hb dX9_metShare_22 (by decide) (fun hc => ?_) (fun hc => ?_)
  · have hf := oF hc hf
    refine k_aload_n E hl 1 dX9_metShare_29 rfl ?_
    refine gf_X9_13 E hW 0 rfl rfl dX9_metShare_30 ?_
    refine lv_bipush (v := (8 : Int32)) E.hx E.hb dX9_metShare_33 bp_8 ?_
    obtain ⟨hin, hf⟩ := oI hf
    obtain ⟨x_5, ex_5, hf⟩ := oL hf
    refine k_iald E hW 2 rfl hin dX9_metShare_35 ?_
    refine k_topi ex_5 ?_
    refine lv_i2f E.hx E.hb dX9_metShare_36 ?_
    refine k_iload_n E hl 0 dX9_metShare_37 rfl ?_
    refine lv_i2f E.hx E.hb dX9_metShare_38 ?_
    obtain ⟨hnan, hf⟩ := oNN32 hf
    refine lv_fdiv E.hx E.hb dX9_metShare_39 hnan ?_
    exact hret _ th_1 _ _ _ _ _ _ hW (Option.some.inj hf).symm (by decide) (by decide) dX9_metShare_40
  · have hf := oT hc hf
    refine lv_fconst0 E.hx E.hb dX9_metShare_25 ?_
    refine lv_goto (tgt := 40) E.hx E.hb dX9_metShare_26 (by decide) ?_
    exact hret _ th_1 _ _ _ _ _ _ hW (Option.some.inj hf).symm (by decide) (by decide) dX9_metShare_40
def f_X8_meanLate (n : Nat) (sv_th : Value) (th_0 : OS) (no_0 : OS) : Option (UInt64) :=
  bnd (f_X2_brokenLoans n no_0 (-1 : Int32)) (fun (r_1 : Int32) =>
  if r_1 = 0 then (
  some (0 : UInt64)) else (
  bnd (f_X2_lateness n no_0) (fun (r_2 : Int32) =>
  nN64 (FP.ddiv (FP.i2d r_2) (FP.i2d r_1)) (
  some (FP.ddiv (FP.i2d r_2) (FP.i2d r_1))))))
set_option maxHeartbeats 4000000 in
set_option maxRecDepth 100000 in
theorem c_X8_meanLate (n : Nat) (l : Launch) (k : KT) (a_th : Nat → Nat) (a_in : Nat → Nat) (a_ou : Nat → Nat) (a_ru : Nat → Nat) (a_no : Nat → Nat) (a_fo : Nat → Nat) (a_rd : Nat → Nat) (a_pa : Nat → Nat) (sv_th : Value) (th_0 : OS) (no_0 : OS) (res : (UInt64)) (hf : f_X8_meanLate n sv_th th_0 no_0 = some res) : CG l k yX8_meanLate cX8_meanLate 2 (some .double) 3 0 0 68 [.ref (a_th 0)] (wMCo k a_th (a_in 0) (a_ou 0) (a_ru 0) (a_no 0) (a_fo 0) (a_rd 0) (a_pa 0) sv_th th_0 ++ wCourt k a_no no_0) (Qd k (fun u : Unit => wMCo k a_th (a_in 0) (a_ou 0) (a_ru 0) (a_no 0) (a_fo 0) (a_rd 0) (a_pa 0) sv_th th_0 ++ wCourt k a_no no_0) (fun (r : UInt64) (u : Unit) => res = r)) := by
  refine CG.ofD (by decide) (Nat.le_of_ble_eq_true rfl) (fun p e s m args below meth c A Q E hnm hW hA hret ls hl => ?_)
  have hl : lv_has ls 2 [(0, .ref (a_th 0))] := hl
  unfold f_X8_meanLate at hf
  refine k_aload_n E hl 0 dX8_meanLate_0 rfl ?_
  refine gf_X8_31 E hW 0 rfl rfl dX8_meanLate_1 ?_
  refine lv_iconst (v := (-1 : Int32)) E.hx E.hb dX8_meanLate_4 ic_m1 ?_
  obtain ⟨r_1, hg, hf⟩ := ob hf
  refine k_callVi (As := [.int (-1 : Int32)]) (rest := []) (ws2 := fun u => wMCo k a_th (a_in 0) (a_ou 0) (a_ru 0) (a_no 0) (a_fo 0) (a_rd 0) (a_pa 0) sv_th th_0 ++ wCourt k a_no no_0) (c_X2_brokenLoans n l k a_no no_0 (-1 : Int32) r_1 hg) E vl_X8_139 dX8_meanLate_5 rfl [1, 2, 3, 4, 5, 6, 7, 8, 9, 10, 11, 12] 1 1 hW hA hl rfl rfl rfl rfl ⟨by decide, by decide⟩ ⟨by decide, by decide⟩ (Nat.le_of_ble_eq_true rfl) rfl (fun _ => rfl) (fun _ => rfl) (fun r u H locs hp hW => ?_)
  cases hp
  have hW : WD k A s.heap (wMCo k a_th (a_in 0) (a_ou 0) (a_ru 0) (a_no 0) (a_fo 0) (a_rd 0) (a_pa 0) sv_th th_0 ++ wCourt k a_no no_0) H locs := hW
  refine k_istore_n (lv' := [(1, .int r_1), (0, .ref (a_th 0))]) E rfl hl dX8_meanLate_8 rfl (by decide) rfl (fun ls hl => ?_)
  refine k_iload_n E hl 0 dX8_meanLate_9 rfl ?_
  refine lv_if_ne (tgt := 17) E.hx E.hb dX8_meanLate_10 (by decide) (fun hc => ?_) (fun hc => ?_)
  · have hf := oF hc hf
    refine k_aload_n E hl 1 dX8_meanLate_17 rfl ?_
    refine gf_X8_31 E hW 0 rfl rfl dX8_meanLate_18 ?_
    obtain ⟨r_2, hg, hf⟩ := ob hf
    refine k_callVi (As := []) (rest := []) (ws2 := fun u => wMCo k a_th (a_in 0) (a_ou 0) (a_ru 0) (a_no 0) (a_fo 0) (a_rd 0) (a_pa 0) sv_th th_0 ++ wCourt k a_no no_0) (c_X2_lateness n l k a_no no_0 r_2 hg) E vl_X8_272 dX8_meanLate_21 rfl [1, 2, 3, 4, 5, 6, 7, 8, 9, 10, 11, 12] 1 1 hW hA hl rfl rfl rfl rfl ⟨by decide, by decide⟩ ⟨by decide, by decide⟩ (Nat.le_of_ble_eq_true rfl) rfl (fun _ => rfl) (fun _ => rfl) (fun r u H locs hp hW => ?_)
    cases hp
    have hW : WD k A s.heap (wMCo k a_th (a_in 0) (a_ou 0) (a_ru 0) (a_no 0) (a_fo 0) (a_rd 0) (a_pa 0) sv_th th_0 ++ wCourt k a_no no_0) H locs := hW
    refine lv_i2d E.hx E.hb dX8_meanLate_24 ?_
    refine k_iload_n E hl 0 dX8_meanLate_25 rfl ?_
    refine lv_i2d E.hx E.hb dX8_meanLate_26 ?_
    obtain ⟨hnan, hf⟩ := oNN64 hf
    refine lv_ddiv E.hx E.hb dX8_meanLate_27 hnan ?_
    exact hret _ () _ _ _ _ _ _ hW (Option.some.inj hf).symm (by decide) (by decide) dX8_meanLate_28
  · have hf := oT hc hf
    refine lv_dconst0 E.hx E.hb dX8_meanLate_13 ?_
    refine lv_goto (tgt := 28) E.hx E.hb dX8_meanLate_14 (by decide) ?_
    exact hret _ () _ _ _ _ _ _ hW (Option.some.inj hf).symm (by decide) (by decide) dX8_meanLate_28
def f_X8_metShare (n : Nat) (sv_th : Value) (th_0 : OS) (no_0 : OS) : Option (UInt32) :=
  bnd (f_X2_claimsThat n no_0 (-1 : Int32) (1 : Int32)) (fun (r_1 : Int32) =>
  bnd (f_X2_claimsThat n no_0 (-1 : Int32) (2 : Int32)) (fun (r_2 : Int32) =>
  Let (r_1 + r_2) (fun v2_3 : Int32 =>
  if v2_3 = 0 then (
  some (0 : UInt32)) else (
  nN32 (FP.fdiv (FP.i2f r_1) (FP.i2f v2_3)) (
  some (FP.fdiv (FP.i2f r_1) (FP.i2f v2_3)))))))
set_option maxHeartbeats 4000000 in
set_option maxRecDepth 100000 in
theorem c_X8_metShare (n : Nat) (l : Launch) (k : KT) (a_th : Nat → Nat) (a_in : Nat → Nat) (a_ou : Nat → Nat) (a_ru : Nat → Nat) (a_no : Nat → Nat) (a_fo : Nat → Nat) (a_rd : Nat → Nat) (a_pa : Nat → Nat) (sv_th : Value) (th_0 : OS) (no_0 : OS) (res : (UInt32)) (hf : f_X8_metShare n sv_th th_0 no_0 = some res) : CG l k yX8_metShare cX8_metShare 3 (some .float) 2 0 0 47 [.ref (a_th 0)] (wMCo k a_th (a_in 0) (a_ou 0) (a_ru 0) (a_no 0) (a_fo 0) (a_rd 0) (a_pa 0) sv_th th_0 ++ wCourt k a_no no_0) (Qf k (fun u : Unit => wMCo k a_th (a_in 0) (a_ou 0) (a_ru 0) (a_no 0) (a_fo 0) (a_rd 0) (a_pa 0) sv_th th_0 ++ wCourt k a_no no_0) (fun (r : UInt32) (u : Unit) => res = r)) := by
  refine CG.ofFl (by decide) (Nat.le_of_ble_eq_true rfl) (fun p e s m args below meth c A Q E hnm hW hA hret ls hl => ?_)
  have hl : lv_has ls 3 [(0, .ref (a_th 0))] := hl
  unfold f_X8_metShare at hf
  refine k_aload_n E hl 0 dX8_metShare_0 rfl ?_
  refine gf_X8_31 E hW 0 rfl rfl dX8_metShare_1 ?_
  refine lv_iconst (v := (-1 : Int32)) E.hx E.hb dX8_metShare_4 ic_m1 ?_
  refine lv_iconst (v := (1 : Int32)) E.hx E.hb dX8_metShare_5 ic_1 ?_
  obtain ⟨r_1, hg, hf⟩ := ob hf
  refine k_callVi (As := [.int (-1 : Int32), .int (1 : Int32)]) (rest := []) (ws2 := fun u => wMCo k a_th (a_in 0) (a_ou 0) (a_ru 0) (a_no 0) (a_fo 0) (a_rd 0) (a_pa 0) sv_th th_0 ++ wCourt k a_no no_0) (c_X2_claimsThat n l k a_no no_0 (-1 : Int32) (1 : Int32) r_1 hg) E vl_X8_145 dX8_metShare_6 rfl [1, 2, 3, 4, 5, 6, 7, 8, 9, 10, 11, 12] 1 1 hW hA hl rfl rfl rfl rfl ⟨by decide, by decide⟩ ⟨by decide, by decide⟩ (Nat.le_of_ble_eq_true rfl) rfl (fun _ => rfl) (fun _ => rfl) (fun r u H locs hp hW => ?_)
  cases hp
  have hW : WD k A s.heap (wMCo k a_th (a_in 0) (a_ou 0) (a_ru 0) (a_no 0) (a_fo 0) (a_rd 0) (a_pa 0) sv_th th_0 ++ wCourt k a_no no_0) H locs := hW
  refine k_istore_n (lv' := [(1, .int r_1), (0, .ref (a_th 0))]) E rfl hl dX8_metShare_9 rfl (by decide) rfl (fun ls hl => ?_)
  refine k_iload_n E hl 0 dX8_metShare_10 rfl ?_
  refine k_aload_n E hl 1 dX8_metShare_11 rfl ?_
  refine gf_X8_31 E hW 0 rfl rfl dX8_metShare_12 ?_
  refine lv_iconst (v := (-1 : Int32)) E.hx E.hb dX8_metShare_15 ic_m1 ?_
  refine lv_iconst (v := (2 : Int32)) E.hx E.hb dX8_metShare_16 ic_2 ?_
  obtain ⟨r_2, hg, hf⟩ := ob hf
  refine k_callVi (As := [.int (-1 : Int32), .int (2 : Int32)]) (rest := [.int r_1]) (ws2 := fun u => wMCo k a_th (a_in 0) (a_ou 0) (a_ru 0) (a_no 0) (a_fo 0) (a_rd 0) (a_pa 0) sv_th th_0 ++ wCourt k a_no no_0) (c_X2_claimsThat n l k a_no no_0 (-1 : Int32) (2 : Int32) r_2 hg) E vl_X8_145 dX8_metShare_17 rfl [1, 2, 3, 4, 5, 6, 7, 8, 9, 10, 11, 12] 1 1 hW hA hl rfl rfl rfl rfl ⟨by decide, by decide⟩ ⟨by decide, by decide⟩ (Nat.le_of_ble_eq_true rfl) rfl (fun _ => rfl) (fun _ => rfl) (fun r u H locs hp hW => ?_)
  cases hp
  have hW : WD k A s.heap (wMCo k a_th (a_in 0) (a_ou 0) (a_ru 0) (a_no 0) (a_fo 0) (a_rd 0) (a_pa 0) sv_th th_0 ++ wCourt k a_no no_0) H locs := hW
  refine lv_iadd E.hx E.hb dX8_metShare_20 ?_
  obtain ⟨v2_3, ev2_3, hf⟩ := oL hf
  refine k_istore_n (lv' := [(2, .int v2_3), (1, .int r_1), (0, .ref (a_th 0))]) E ev2_3 hl dX8_metShare_21 rfl (by decide) rfl (fun ls hl => ?_)
  refine k_iload_n E hl 0 dX8_metShare_22 rfl ?_
  refine lv_if_ne (tgt := 30) E.hx E.hb dX8_metShare_23 (by decide) (fun hc => ?_) (fun hc => ?_)
  · have hf := oF hc hf
    refine k_iload_n E hl 1 dX8_metShare_30 rfl ?_
    refine lv_i2f E.hx E.hb dX8_metShare_31 ?_
    refine k_iload_n E hl 0 dX8_metShare_32 rfl ?_
    refine lv_i2f E.hx E.hb dX8_metShare_33 ?_
    obtain ⟨hnan, hf⟩ := oNN32 hf
    refine lv_fdiv E.hx E.hb dX8_metShare_34 hnan ?_
    exact hret _ () _ _ _ _ _ _ hW (Option.some.inj hf).symm (by decide) (by decide) dX8_metShare_35
  · have hf := oT hc hf
    refine lv_fconst0 E.hx E.hb dX8_metShare_26 ?_
    refine lv_goto (tgt := 35) E.hx E.hb dX8_metShare_27 (by decide) ?_
    exact hret _ () _ _ _ _ _ _ hW (Option.some.inj hf).symm (by decide) (by decide) dX8_metShare_35
