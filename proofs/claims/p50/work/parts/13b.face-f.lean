theorem tm_653 : (Jvm.Cond.methodLink "MemoryCourt" (355 : Nat) ({ cls := "java/lang/Math", name := "min", desc := "(II)I" } : Jvm.MethodName)) ∈ lw_tbl := List.mem_of_getElem? (i := 653) (by decide +kernel)
theorem tm_321 : (Jvm.Cond.fieldLink "MemoryCourt" (35 : Nat) "MemoryCourt" "forecast" "LMemoryCourt$Court;") ∈ lw_tbl := List.mem_of_getElem? (i := 321) (by decide +kernel)
theorem tm_544 : (Jvm.Cond.methodLink "MemoryCourt" (286 : Nat) ({ cls := "MemoryCourt$Court", name := "tick", desc := "(LMemoryCourt$Rules;)I" } : Jvm.MethodName)) ∈ lw_tbl := List.mem_of_getElem? (i := 544) (by decide +kernel)
theorem tm_545 : (Jvm.Cond.instanceMethod ({ cls := "MemoryCourt$Court", name := "tick", desc := "(LMemoryCourt$Rules;)I" } : Jvm.MethodName)) ∈ lw_tbl := List.mem_of_getElem? (i := 545) (by decide +kernel)
theorem tm_546 : (Jvm.Cond.selects "MemoryCourt$Court" ({ cls := "MemoryCourt$Court", name := "tick", desc := "(LMemoryCourt$Rules;)I" } : Jvm.MethodName) ({ cls := "MemoryCourt$Court", name := "tick", desc := "(LMemoryCourt$Rules;)I" } : Jvm.MethodName)) ∈ lw_tbl := List.mem_of_getElem? (i := 546) (by decide +kernel)
theorem tm_547 : (Jvm.Cond.code ({ cls := "MemoryCourt$Court", name := "tick", desc := "(LMemoryCourt$Rules;)I" } : Jvm.MethodName) prog_4_method_38_code (3 : Nat) (Option.some Jvm.ClassFile.FieldType.int)) ∈ lw_tbl := List.mem_of_getElem? (i := 547) (by decide +kernel)
theorem tm_651 : (Jvm.Cond.methodLink "MemoryCourt" (298 : Nat) ({ cls := "MemoryCourt$Court", name := "waits", desc := "(I)Z" } : Jvm.MethodName)) ∈ lw_tbl := List.mem_of_getElem? (i := 651) (by decide +kernel)
theorem tm_652 : (Jvm.Cond.methodLink "MemoryCourt" (90 : Nat) ({ cls := "MemoryCourt$Court", name := "copyFrom", desc := "(LMemoryCourt$Court;)V" } : Jvm.MethodName)) ∈ lw_tbl := List.mem_of_getElem? (i := 652) (by decide +kernel)
theorem tm_526 : (Jvm.Cond.instanceMethod ({ cls := "MemoryCourt$Court", name := "copyFrom", desc := "(LMemoryCourt$Court;)V" } : Jvm.MethodName)) ∈ lw_tbl := List.mem_of_getElem? (i := 526) (by decide +kernel)
theorem tm_527 : (Jvm.Cond.selects "MemoryCourt$Court" ({ cls := "MemoryCourt$Court", name := "copyFrom", desc := "(LMemoryCourt$Court;)V" } : Jvm.MethodName) ({ cls := "MemoryCourt$Court", name := "copyFrom", desc := "(LMemoryCourt$Court;)V" } : Jvm.MethodName)) ∈ lw_tbl := List.mem_of_getElem? (i := 527) (by decide +kernel)
theorem tm_528 : (Jvm.Cond.code ({ cls := "MemoryCourt$Court", name := "copyFrom", desc := "(LMemoryCourt$Court;)V" } : Jvm.MethodName) prog_4_method_3_code (2 : Nat) (Option.none : Option Jvm.ClassFile.FieldType)) ∈ lw_tbl := List.mem_of_getElem? (i := 528) (by decide +kernel)
theorem tm_484 : (Jvm.Cond.methodLink "MemoryCourt" (275 : Nat) ({ cls := "MemoryCourt", name := "needTicks", desc := "(I)V" } : Jvm.MethodName)) ∈ lw_tbl := List.mem_of_getElem? (i := 484) (by decide +kernel)
theorem tm_486 : (Jvm.Cond.instanceMethod ({ cls := "MemoryCourt", name := "needTicks", desc := "(I)V" } : Jvm.MethodName)) ∈ lw_tbl := List.mem_of_getElem? (i := 486) (by decide +kernel)
theorem tms_5 : (Jvm.Cond.selects "MemoryCourt" ({ cls := "MemoryCourt", name := "needTicks", desc := "(I)V" } : Jvm.MethodName) ({ cls := "MemoryCourt", name := "needTicks", desc := "(I)V" } : Jvm.MethodName)) ∈ lw_tbl := List.mem_of_getElem? (i := 5) (by decide +kernel)
theorem tm_487 : (Jvm.Cond.code ({ cls := "MemoryCourt", name := "needTicks", desc := "(I)V" } : Jvm.MethodName) prog_1_method_53_code (2 : Nat) (Option.none : Option Jvm.ClassFile.FieldType)) ∈ lw_tbl := List.mem_of_getElem? (i := 487) (by decide +kernel)
theorem tm_647 : (Jvm.Cond.methodLink "MemoryCourt" (338 : Nat) ({ cls := "MemoryCourt", name := "ticksUntil", desc := "(III)I" } : Jvm.MethodName)) ∈ lw_tbl := List.mem_of_getElem? (i := 647) (by decide +kernel)
theorem tm_649 : (Jvm.Cond.instanceMethod ({ cls := "MemoryCourt", name := "ticksUntil", desc := "(III)I" } : Jvm.MethodName)) ∈ lw_tbl := List.mem_of_getElem? (i := 649) (by decide +kernel)
theorem tms_14 : (Jvm.Cond.selects "MemoryCourt" ({ cls := "MemoryCourt", name := "ticksUntil", desc := "(III)I" } : Jvm.MethodName) ({ cls := "MemoryCourt", name := "ticksUntil", desc := "(III)I" } : Jvm.MethodName)) ∈ lw_tbl := List.mem_of_getElem? (i := 14) (by decide +kernel)
theorem tm_650 : (Jvm.Cond.code ({ cls := "MemoryCourt", name := "ticksUntil", desc := "(III)I" } : Jvm.MethodName) prog_1_method_54_code (6 : Nat) (Option.some Jvm.ClassFile.FieldType.int)) ∈ lw_tbl := List.mem_of_getElem? (i := 650) (by decide +kernel)
theorem tm_659 : (Jvm.Cond.methodLink "MemoryCourt" (350 : Nat) ({ cls := "MemoryCourt", name := "pass", desc := "(I)I" } : Jvm.MethodName)) ∈ lw_tbl := List.mem_of_getElem? (i := 659) (by decide +kernel)
theorem tm_661 : (Jvm.Cond.instanceMethod ({ cls := "MemoryCourt", name := "pass", desc := "(I)I" } : Jvm.MethodName)) ∈ lw_tbl := List.mem_of_getElem? (i := 661) (by decide +kernel)
theorem tms_15 : (Jvm.Cond.selects "MemoryCourt" ({ cls := "MemoryCourt", name := "pass", desc := "(I)I" } : Jvm.MethodName) ({ cls := "MemoryCourt", name := "pass", desc := "(I)I" } : Jvm.MethodName)) ∈ lw_tbl := List.mem_of_getElem? (i := 15) (by decide +kernel)
theorem tm_662 : (Jvm.Cond.code ({ cls := "MemoryCourt", name := "pass", desc := "(I)I" } : Jvm.MethodName) prog_1_method_55_code (5 : Nat) (Option.some Jvm.ClassFile.FieldType.int)) ∈ lw_tbl := List.mem_of_getElem? (i := 662) (by decide +kernel)
theorem sp_2000 : (Int16.ofInt (2000)).toInt32 = (2000 : Int32) := by decide
theorem gf_X8_35 {p : Program} {l : Launch} {e : Env} {R : Room} {s : State} {m : MethodId} {args : Array Value} {below : List Frame} {meth : Method} {c : Code} {H : Heap} {locs : List Loc} {cells slots : Nat} {Q : State → Prop} {cc : ByteArray} {pc nL : Nat} {ls : Array Slot} {rest : List Value} {k : KT} {A : Nat → Prop} {ws : va_W} {H0 : Heap} {a : Nat} (E : E0 p s m c cc nL RX8 k A) (hW : WD k A H0 ws H locs) (q0 : Nat) {fs : List Value} (he : ws[q0]? = some (a, .inr (8, fs))) {v : Value} (hv : fs[4]? = some v) (hdg : decode cc pc = .ok (.getfield 35, 3)) (q : W p l e R s m args below meth c H locs cells slots Q (F0 m (pc + 3) ls (v :: rest))) : W p l e R s m args below meth c H locs cells slots Q (F0 m pc ls (.ref a :: rest)) := va_get (C := RX8) (T := TX8) (N := 9) (ci := 8) E.hx E.hb (Ts := wsX80) (fun w hw => E.w (inX8 w hw) (tbl_laysX8 w hw)) (fun _ h => h) E.ho E.hK hW.1 q0 he rfl 4 (by decide) (E.w tm_321 rfl) (fun _ h => h) hv hdg q
theorem pf_X8_111 {p : Program} {l : Launch} {e : Env} {R : Room} {s : State} {m : MethodId} {args : Array Value} {below : List Frame} {meth : Method} {c : Code} {H : Heap} {locs : List Loc} {cells slots : Nat} {Q : State → Prop} {cc : ByteArray} {pc nL : Nat} {ls : Array Slot} {rest : List Value} {k : KT} {A : Nat → Prop} {ws ws2 : va_W} {H0 : Heap} {a : Nat} (E : E0 p s m c cc nL RX8 k A) (hW : WD k A H0 ws H locs) (q0 : Nat) {fs : List Value} (he : ws[q0]? = some (a, .inr (3, fs))) {v : Value} (hn : narrow (tyX2 1) v = v) (hfit : fits (tyX2 1) v = true) (hl : 1 < fs.length) (hdg : decode cc pc = .ok (.putfield 111, 3)) (hws : ws.set q0 (a, .inr (3, fs.set 1 v)) = ws2) (q : ∀ (H1 : Heap) (locs1 : List Loc), WD k A H0 ws2 H1 locs1 → W p l e R s m args below meth c H1 locs1 cells slots Q (F0 m (pc + 3) ls rest)) : W p l e R s m args below meth c H locs cells slots Q (F0 m pc ls (v :: .ref a :: rest)) := by
  subst hws
  exact va_putN (C := RX2) (T := TX2) (N := 16) (ci := 3) (ty := tyX2 1) E.hx E.hb (Ts := wsX20) (fun w hw => E.w (inX2 w hw) (tbl_laysX2 w hw)) (fun _ h => h) tyX2 tyX2_ok nmX2 E.ho E.hK hW.1 hW.2.1 hW.2.2 q0 he rfl 1 (by decide) (E.w tm_158 rfl) (fun _ h => h) rfl (tyX2_ok 1 (by decide)) hn hfit hl hdg (fun H1 locs1 h1 h2 h3 => q H1 locs1 ⟨h1, h2, h3⟩)
theorem vl_X8_286 : VL RX8 286 RX2 yX2_tick cX2_tick 3 (some .int) 1 := ⟨⟨tm_544, tm_545, tm_546, tm_38, tm_547⟩, by decide +kernel⟩
theorem vl_X8_298 : VL RX8 298 RX2 yX2_waits cX2_waits 2 (some .boolean) 1 := ⟨⟨tm_651, tm_590, tm_591, tm_38, tm_592⟩, by decide +kernel⟩
theorem vl_X8_90 : VL RX8 90 RX2 yX2_copyFrom cX2_copyFrom 2 none 1 := ⟨⟨tm_652, tm_526, tm_527, tm_38, tm_528⟩, by decide +kernel⟩
theorem vl_X8_275 : VL RX8 275 RX8 yX8_needTicks cX8_needTicks 2 none 1 := ⟨⟨tm_484, tm_486, tms_5, tm_33, tm_487⟩, by decide +kernel⟩
theorem vl_X8_338 : VL RX8 338 RX8 yX8_ticksUntil cX8_ticksUntil 6 (some .int) 3 := ⟨⟨tm_647, tm_649, tms_14, tm_33, tm_650⟩, by decide +kernel⟩
theorem vl_X8_350 : VL RX8 350 RX8 yX8_pass cX8_pass 5 (some .int) 1 := ⟨⟨tm_659, tm_661, tms_15, tm_33, tm_662⟩, by decide +kernel⟩
theorem dX8_pass_0 : decode cX8_pass 0 = .ok (.iload_n 1, 1) := by decide +kernel
theorem dX8_pass_1 : decode cX8_pass 1 = .ok (.sipush 2000, 3) := by decide +kernel
theorem dX8_pass_4 : decode cX8_pass 4 = .ok (.aload_n 0, 1) := by decide +kernel
theorem dX8_pass_5 : decode cX8_pass 5 = .ok (.getfield 31, 3) := by decide +kernel
theorem dX8_pass_8 : decode cX8_pass 8 = .ok (.getfield 108, 3) := by decide +kernel
theorem dX8_pass_11 : decode cX8_pass 11 = .ok (.isub, 1) := by decide +kernel
theorem dX8_pass_12 : decode cX8_pass 12 = .ok (.invokestatic 355, 3) := by decide +kernel
theorem dX8_pass_15 : decode cX8_pass 15 = .ok (.istore_n 2, 1) := by decide +kernel
theorem dX8_pass_16 : decode cX8_pass 16 = .ok (.iconst 0, 1) := by decide +kernel
theorem dX8_pass_17 : decode cX8_pass 17 = .ok (.istore_n 3, 1) := by decide +kernel
theorem dX8_pass_18 : decode cX8_pass 18 = .ok (.iconst 0, 1) := by decide +kernel
theorem dX8_pass_19 : decode cX8_pass 19 = .ok (.istore 4, 2) := by decide +kernel
theorem dX8_pass_21 : decode cX8_pass 21 = .ok (.iload 4, 2) := by decide +kernel
theorem dX8_pass_23 : decode cX8_pass 23 = .ok (.iload_n 2, 1) := by decide +kernel
theorem dX8_pass_24 : decode cX8_pass 24 = .ok (.if_icmp .ge 23, 3) := by decide +kernel
theorem dX8_pass_27 : decode cX8_pass 27 = .ok (.iload_n 3, 1) := by decide +kernel
theorem dX8_pass_28 : decode cX8_pass 28 = .ok (.aload_n 0, 1) := by decide +kernel
theorem dX8_pass_29 : decode cX8_pass 29 = .ok (.getfield 35, 3) := by decide +kernel
theorem dX8_pass_32 : decode cX8_pass 32 = .ok (.aload_n 0, 1) := by decide +kernel
theorem dX8_pass_33 : decode cX8_pass 33 = .ok (.getfield 24, 3) := by decide +kernel
theorem dX8_pass_36 : decode cX8_pass 36 = .ok (.invokevirtual 286, 3) := by decide +kernel
theorem dX8_pass_39 : decode cX8_pass 39 = .ok (.iadd, 1) := by decide +kernel
theorem dX8_pass_40 : decode cX8_pass 40 = .ok (.istore_n 3, 1) := by decide +kernel
theorem dX8_pass_41 : decode cX8_pass 41 = .ok (.iinc 4 1, 3) := by decide +kernel
theorem dX8_pass_44 : decode cX8_pass 44 = .ok (.goto (-23), 3) := by decide +kernel
theorem dX8_pass_47 : decode cX8_pass 47 = .ok (.iload_n 3, 1) := by decide +kernel
theorem dX8_pass_48 : decode cX8_pass 48 = .ok (.ireturn, 1) := by decide +kernel
theorem dX8_ticksUntil_0 : decode cX8_ticksUntil 0 = .ok (.aload_n 0, 1) := by decide +kernel
theorem dX8_ticksUntil_1 : decode cX8_ticksUntil 1 = .ok (.getfield 31, 3) := by decide +kernel
theorem dX8_ticksUntil_4 : decode cX8_ticksUntil 4 = .ok (.iload_n 1, 1) := by decide +kernel
theorem dX8_ticksUntil_5 : decode cX8_ticksUntil 5 = .ok (.invokevirtual 298, 3) := by decide +kernel
theorem dX8_ticksUntil_8 : decode cX8_ticksUntil 8 = .ok (.ifCond .ne 5, 3) := by decide +kernel
theorem dX8_ticksUntil_11 : decode cX8_ticksUntil 11 = .ok (.iconst (-1), 1) := by decide +kernel
theorem dX8_ticksUntil_12 : decode cX8_ticksUntil 12 = .ok (.ireturn, 1) := by decide +kernel
theorem dX8_ticksUntil_13 : decode cX8_ticksUntil 13 = .ok (.aload_n 0, 1) := by decide +kernel
theorem dX8_ticksUntil_14 : decode cX8_ticksUntil 14 = .ok (.getfield 35, 3) := by decide +kernel
theorem dX8_ticksUntil_17 : decode cX8_ticksUntil 17 = .ok (.aload_n 0, 1) := by decide +kernel
theorem dX8_ticksUntil_18 : decode cX8_ticksUntil 18 = .ok (.getfield 31, 3) := by decide +kernel
theorem dX8_ticksUntil_21 : decode cX8_ticksUntil 21 = .ok (.invokevirtual 90, 3) := by decide +kernel
theorem dX8_ticksUntil_24 : decode cX8_ticksUntil 24 = .ok (.iload_n 3, 1) := by decide +kernel
theorem dX8_ticksUntil_25 : decode cX8_ticksUntil 25 = .ok (.sipush 2000, 3) := by decide +kernel
theorem dX8_ticksUntil_28 : decode cX8_ticksUntil 28 = .ok (.aload_n 0, 1) := by decide +kernel
theorem dX8_ticksUntil_29 : decode cX8_ticksUntil 29 = .ok (.getfield 31, 3) := by decide +kernel
theorem dX8_ticksUntil_32 : decode cX8_ticksUntil 32 = .ok (.getfield 108, 3) := by decide +kernel
theorem dX8_ticksUntil_35 : decode cX8_ticksUntil 35 = .ok (.isub, 1) := by decide +kernel
theorem dX8_ticksUntil_36 : decode cX8_ticksUntil 36 = .ok (.invokestatic 355, 3) := by decide +kernel
theorem dX8_ticksUntil_39 : decode cX8_ticksUntil 39 = .ok (.istore 4, 2) := by decide +kernel
theorem dX8_ticksUntil_41 : decode cX8_ticksUntil 41 = .ok (.iconst 1, 1) := by decide +kernel
theorem dX8_ticksUntil_42 : decode cX8_ticksUntil 42 = .ok (.istore 5, 2) := by decide +kernel
theorem dX8_ticksUntil_44 : decode cX8_ticksUntil 44 = .ok (.iload 5, 2) := by decide +kernel
theorem dX8_ticksUntil_46 : decode cX8_ticksUntil 46 = .ok (.iload 4, 2) := by decide +kernel
theorem dX8_ticksUntil_48 : decode cX8_ticksUntil 48 = .ok (.if_icmp .gt 40, 3) := by decide +kernel
theorem dX8_ticksUntil_51 : decode cX8_ticksUntil 51 = .ok (.aload_n 0, 1) := by decide +kernel
theorem dX8_ticksUntil_52 : decode cX8_ticksUntil 52 = .ok (.getfield 35, 3) := by decide +kernel
theorem dX8_ticksUntil_55 : decode cX8_ticksUntil 55 = .ok (.aload_n 0, 1) := by decide +kernel
theorem dX8_ticksUntil_56 : decode cX8_ticksUntil 56 = .ok (.getfield 24, 3) := by decide +kernel
theorem dX8_ticksUntil_59 : decode cX8_ticksUntil 59 = .ok (.invokevirtual 286, 3) := by decide +kernel
theorem dX8_ticksUntil_62 : decode cX8_ticksUntil 62 = .ok (.pop, 1) := by decide +kernel
theorem dX8_ticksUntil_63 : decode cX8_ticksUntil 63 = .ok (.aload_n 0, 1) := by decide +kernel
theorem dX8_ticksUntil_64 : decode cX8_ticksUntil 64 = .ok (.getfield 35, 3) := by decide +kernel
theorem dX8_ticksUntil_67 : decode cX8_ticksUntil 67 = .ok (.getfield 222, 3) := by decide +kernel
theorem dX8_ticksUntil_70 : decode cX8_ticksUntil 70 = .ok (.iload_n 1, 1) := by decide +kernel
theorem dX8_ticksUntil_71 : decode cX8_ticksUntil 71 = .ok (.iconst 3, 1) := by decide +kernel
theorem dX8_ticksUntil_72 : decode cX8_ticksUntil 72 = .ok (.invokevirtual 171, 3) := by decide +kernel
theorem dX8_ticksUntil_75 : decode cX8_ticksUntil 75 = .ok (.iload_n 2, 1) := by decide +kernel
theorem dX8_ticksUntil_76 : decode cX8_ticksUntil 76 = .ok (.if_icmp .ne 6, 3) := by decide +kernel
theorem dX8_ticksUntil_79 : decode cX8_ticksUntil 79 = .ok (.iload 5, 2) := by decide +kernel
theorem dX8_ticksUntil_81 : decode cX8_ticksUntil 81 = .ok (.ireturn, 1) := by decide +kernel
theorem dX8_ticksUntil_82 : decode cX8_ticksUntil 82 = .ok (.iinc 5 1, 3) := by decide +kernel
theorem dX8_ticksUntil_85 : decode cX8_ticksUntil 85 = .ok (.goto (-41), 3) := by decide +kernel
theorem dX8_ticksUntil_88 : decode cX8_ticksUntil 88 = .ok (.iconst (-1), 1) := by decide +kernel
theorem dX8_ticksUntil_89 : decode cX8_ticksUntil 89 = .ok (.ireturn, 1) := by decide +kernel
theorem dX8_metIn_0 : decode cX8_metIn 0 = .ok (.aload_n 0, 1) := by decide +kernel
theorem dX8_metIn_1 : decode cX8_metIn 1 = .ok (.iload_n 1, 1) := by decide +kernel
theorem dX8_metIn_2 : decode cX8_metIn 2 = .ok (.invokevirtual 217, 3) := by decide +kernel
theorem dX8_metIn_5 : decode cX8_metIn 5 = .ok (.aload_n 0, 1) := by decide +kernel
theorem dX8_metIn_6 : decode cX8_metIn 6 = .ok (.iload_n 2, 1) := by decide +kernel
theorem dX8_metIn_7 : decode cX8_metIn 7 = .ok (.invokevirtual 275, 3) := by decide +kernel
theorem dX8_metIn_10 : decode cX8_metIn 10 = .ok (.aload_n 0, 1) := by decide +kernel
theorem dX8_metIn_11 : decode cX8_metIn 11 = .ok (.iload_n 1, 1) := by decide +kernel
theorem dX8_metIn_12 : decode cX8_metIn 12 = .ok (.iconst 1, 1) := by decide +kernel
theorem dX8_metIn_13 : decode cX8_metIn 13 = .ok (.iload_n 2, 1) := by decide +kernel
theorem dX8_metIn_14 : decode cX8_metIn 14 = .ok (.invokevirtual 338, 3) := by decide +kernel
theorem dX8_metIn_17 : decode cX8_metIn 17 = .ok (.ireturn, 1) := by decide +kernel
theorem dX8_processIn_0 : decode cX8_processIn 0 = .ok (.aload_n 0, 1) := by decide +kernel
theorem dX8_processIn_1 : decode cX8_processIn 1 = .ok (.iload_n 1, 1) := by decide +kernel
theorem dX8_processIn_2 : decode cX8_processIn 2 = .ok (.invokevirtual 165, 3) := by decide +kernel
theorem dX8_processIn_5 : decode cX8_processIn 5 = .ok (.aload_n 0, 1) := by decide +kernel
theorem dX8_processIn_6 : decode cX8_processIn 6 = .ok (.iload_n 2, 1) := by decide +kernel
theorem dX8_processIn_7 : decode cX8_processIn 7 = .ok (.invokevirtual 275, 3) := by decide +kernel
theorem dX8_processIn_10 : decode cX8_processIn 10 = .ok (.iload_n 3, 1) := by decide +kernel
theorem dX8_processIn_11 : decode cX8_processIn 11 = .ok (.ifCond .lt 8, 3) := by decide +kernel
theorem dX8_processIn_14 : decode cX8_processIn 14 = .ok (.iload_n 3, 1) := by decide +kernel
theorem dX8_processIn_15 : decode cX8_processIn 15 = .ok (.iconst 2, 1) := by decide +kernel
theorem dX8_processIn_16 : decode cX8_processIn 16 = .ok (.if_icmp .le 14, 3) := by decide +kernel
theorem dX8_processIn_19 : decode cX8_processIn 19 = .ok (.new 234, 3) := by decide +kernel
theorem dX8_processIn_30 : decode cX8_processIn 30 = .ok (.aload_n 0, 1) := by decide +kernel
theorem dX8_processIn_31 : decode cX8_processIn 31 = .ok (.getfield 35, 3) := by decide +kernel
theorem dX8_processIn_34 : decode cX8_processIn 34 = .ok (.aload_n 0, 1) := by decide +kernel
theorem dX8_processIn_35 : decode cX8_processIn 35 = .ok (.getfield 31, 3) := by decide +kernel
theorem dX8_processIn_38 : decode cX8_processIn 38 = .ok (.invokevirtual 90, 3) := by decide +kernel
theorem dX8_processIn_41 : decode cX8_processIn 41 = .ok (.aload_n 0, 1) := by decide +kernel
theorem dX8_processIn_42 : decode cX8_processIn 42 = .ok (.iload_n 2, 1) := by decide +kernel
theorem dX8_processIn_43 : decode cX8_processIn 43 = .ok (.invokevirtual 350, 3) := by decide +kernel
theorem dX8_processIn_46 : decode cX8_processIn 46 = .ok (.pop, 1) := by decide +kernel
theorem dX8_processIn_47 : decode cX8_processIn 47 = .ok (.iload_n 3, 1) := by decide +kernel
theorem dX8_processIn_48 : decode cX8_processIn 48 = .ok (.iconst 2, 1) := by decide +kernel
theorem dX8_processIn_49 : decode cX8_processIn 49 = .ok (.if_icmp .ne 12, 3) := by decide +kernel
theorem dX8_processIn_52 : decode cX8_processIn 52 = .ok (.aload_n 0, 1) := by decide +kernel
theorem dX8_processIn_53 : decode cX8_processIn 53 = .ok (.getfield 35, 3) := by decide +kernel
theorem dX8_processIn_56 : decode cX8_processIn 56 = .ok (.iload_n 1, 1) := by decide +kernel
theorem dX8_processIn_57 : decode cX8_processIn 57 = .ok (.invokevirtual 176, 3) := by decide +kernel
theorem dX8_processIn_60 : decode cX8_processIn 60 = .ok (.ireturn, 1) := by decide +kernel
theorem dX8_processIn_61 : decode cX8_processIn 61 = .ok (.aload_n 0, 1) := by decide +kernel
theorem dX8_processIn_62 : decode cX8_processIn 62 = .ok (.getfield 35, 3) := by decide +kernel
theorem dX8_processIn_65 : decode cX8_processIn 65 = .ok (.getfield 168, 3) := by decide +kernel
theorem dX8_processIn_68 : decode cX8_processIn 68 = .ok (.iload_n 1, 1) := by decide +kernel
theorem dX8_processIn_69 : decode cX8_processIn 69 = .ok (.iload_n 3, 1) := by decide +kernel
theorem dX8_processIn_70 : decode cX8_processIn 70 = .ok (.ifCond .ne 7, 3) := by decide +kernel
theorem dX8_processIn_73 : decode cX8_processIn 73 = .ok (.iconst 0, 1) := by decide +kernel
theorem dX8_processIn_74 : decode cX8_processIn 74 = .ok (.goto 4, 3) := by decide +kernel
theorem dX8_processIn_77 : decode cX8_processIn 77 = .ok (.iconst 1, 1) := by decide +kernel
theorem dX8_processIn_78 : decode cX8_processIn 78 = .ok (.invokevirtual 171, 3) := by decide +kernel
theorem dX8_processIn_81 : decode cX8_processIn 81 = .ok (.ireturn, 1) := by decide +kernel
theorem dX8_bestOrder_0 : decode cX8_bestOrder 0 = .ok (.aload_n 0, 1) := by decide +kernel
theorem dX8_bestOrder_1 : decode cX8_bestOrder 1 = .ok (.iload_n 1, 1) := by decide +kernel
theorem dX8_bestOrder_2 : decode cX8_bestOrder 2 = .ok (.invokevirtual 275, 3) := by decide +kernel
theorem dX8_bestOrder_5 : decode cX8_bestOrder 5 = .ok (.iconst 0, 1) := by decide +kernel
theorem dX8_bestOrder_6 : decode cX8_bestOrder 6 = .ok (.istore_n 2, 1) := by decide +kernel
theorem dX8_bestOrder_7 : decode cX8_bestOrder 7 = .ok (.iconst (-1), 1) := by decide +kernel
theorem dX8_bestOrder_8 : decode cX8_bestOrder 8 = .ok (.istore_n 3, 1) := by decide +kernel
theorem dX8_bestOrder_9 : decode cX8_bestOrder 9 = .ok (.iconst 0, 1) := by decide +kernel
theorem dX8_bestOrder_10 : decode cX8_bestOrder 10 = .ok (.istore 4, 2) := by decide +kernel
theorem dX8_bestOrder_12 : decode cX8_bestOrder 12 = .ok (.iload 4, 2) := by decide +kernel
theorem dX8_bestOrder_14 : decode cX8_bestOrder 14 = .ok (.iconst 2, 1) := by decide +kernel
theorem dX8_bestOrder_15 : decode cX8_bestOrder 15 = .ok (.if_icmp .gt 48, 3) := by decide +kernel
theorem dX8_bestOrder_18 : decode cX8_bestOrder 18 = .ok (.aload_n 0, 1) := by decide +kernel
theorem dX8_bestOrder_19 : decode cX8_bestOrder 19 = .ok (.getfield 35, 3) := by decide +kernel
theorem dX8_bestOrder_22 : decode cX8_bestOrder 22 = .ok (.aload_n 0, 1) := by decide +kernel
theorem dX8_bestOrder_23 : decode cX8_bestOrder 23 = .ok (.getfield 31, 3) := by decide +kernel
theorem dX8_bestOrder_26 : decode cX8_bestOrder 26 = .ok (.invokevirtual 90, 3) := by decide +kernel
theorem dX8_bestOrder_29 : decode cX8_bestOrder 29 = .ok (.aload_n 0, 1) := by decide +kernel
theorem dX8_bestOrder_30 : decode cX8_bestOrder 30 = .ok (.getfield 35, 3) := by decide +kernel
theorem dX8_bestOrder_33 : decode cX8_bestOrder 33 = .ok (.iload 4, 2) := by decide +kernel
theorem dX8_bestOrder_35 : decode cX8_bestOrder 35 = .ok (.putfield 111, 3) := by decide +kernel
theorem dX8_bestOrder_38 : decode cX8_bestOrder 38 = .ok (.aload_n 0, 1) := by decide +kernel
theorem dX8_bestOrder_39 : decode cX8_bestOrder 39 = .ok (.iload_n 1, 1) := by decide +kernel
theorem dX8_bestOrder_40 : decode cX8_bestOrder 40 = .ok (.invokevirtual 350, 3) := by decide +kernel
theorem dX8_bestOrder_43 : decode cX8_bestOrder 43 = .ok (.istore 5, 2) := by decide +kernel
theorem dX8_bestOrder_45 : decode cX8_bestOrder 45 = .ok (.iload 5, 2) := by decide +kernel
theorem dX8_bestOrder_47 : decode cX8_bestOrder 47 = .ok (.iload_n 3, 1) := by decide +kernel
theorem dX8_bestOrder_48 : decode cX8_bestOrder 48 = .ok (.if_icmp .le 9, 3) := by decide +kernel
theorem dX8_bestOrder_51 : decode cX8_bestOrder 51 = .ok (.iload 5, 2) := by decide +kernel
theorem dX8_bestOrder_53 : decode cX8_bestOrder 53 = .ok (.istore_n 3, 1) := by decide +kernel
theorem dX8_bestOrder_54 : decode cX8_bestOrder 54 = .ok (.iload 4, 2) := by decide +kernel
theorem dX8_bestOrder_56 : decode cX8_bestOrder 56 = .ok (.istore_n 2, 1) := by decide +kernel
theorem dX8_bestOrder_57 : decode cX8_bestOrder 57 = .ok (.iinc 4 1, 3) := by decide +kernel
theorem dX8_bestOrder_60 : decode cX8_bestOrder 60 = .ok (.goto (-48), 3) := by decide +kernel
theorem dX8_bestOrder_63 : decode cX8_bestOrder 63 = .ok (.iload_n 2, 1) := by decide +kernel
theorem dX8_bestOrder_64 : decode cX8_bestOrder 64 = .ok (.ireturn, 1) := by decide +kernel
def s_X8_pass_21 (n : Nat) (sv_th : Value) (th_0 : OS) (ru_0 : OS) (no_0 : OS) (w2_j21 : Int32) (rc_21 : (OS) → (Int32) → (Int32) → Option (OS × Int32)) (fo_j21 : OS) (w3_j21 : Int32) (w4_j21 : Int32) : Option (OS × Int32) :=
  if w2_j21 ≤ w4_j21 then (
  some (fo_j21, w3_j21)) else (
  bnd2 (f_X2_tick n fo_j21 ru_0) (fun (fo_2 : OS) (r_3 : Int32) =>
  Let (w3_j21 + r_3) (fun v3_4 : Int32 =>
  Let (w4_j21 + (1 : Int32)) (fun v4_5 : Int32 =>
  rc_21 fo_2 v3_4 v4_5))))
def l_X8_pass_21 (n : Nat) (sv_th : Value) (th_0 : OS) (ru_0 : OS) (no_0 : OS) (w2_j21 : Int32) : Nat → (OS) → (Int32) → (Int32) → Option (OS × Int32)
  | 0 => fun _ _ _ => none
  | N + 1 => s_X8_pass_21 n sv_th th_0 ru_0 no_0 w2_j21 (l_X8_pass_21 n sv_th th_0 ru_0 no_0 w2_j21 N)
def f_X8_pass (n : Nat) (sv_th : Value) (th_0 : OS) (ru_0 : OS) (no_0 : OS) (fo_0 : OS) (v1_0 : Int32) : Option (OS × Int32) :=
  Let (if ((2000 : Int32) - (no_0.1 0)) < v1_0 then ((2000 : Int32) - (no_0.1 0)) else v1_0) (fun v2_1 : Int32 =>
  l_X8_pass_21 n sv_th th_0 ru_0 no_0 v2_1 n fo_0 (0 : Int32) (0 : Int32))
set_option maxHeartbeats 4000000 in
set_option maxRecDepth 100000 in
theorem c_X8_pass (n : Nat) (l : Launch) (k : KT) (a_th : Nat → Nat) (a_in : Nat → Nat) (a_ou : Nat → Nat) (a_ru : Nat → Nat) (a_no : Nat → Nat) (a_fo : Nat → Nat) (a_rd : Nat → Nat) (a_pa : Nat → Nat) (sv_th : Value) (th_0 : OS) (ru_0 : OS) (no_0 : OS) (fo_0 : OS) (v1_0 : Int32) (res : (OS × Int32)) (hf : f_X8_pass n sv_th th_0 ru_0 no_0 fo_0 v1_0 = some res) : CG l k yX8_pass cX8_pass 5 (some .int) 6 0 0 144 [.ref (a_th 0), .int v1_0] (wMCo k a_th (a_in 0) (a_ou 0) (a_ru 0) (a_no 0) (a_fo 0) (a_rd 0) (a_pa 0) sv_th th_0 ++ wRules k a_ru ru_0 ++ wCourt k a_no no_0 ++ wCourt k a_fo fo_0) (Qi k (fun u : OS => wMCo k a_th (a_in 0) (a_ou 0) (a_ru 0) (a_no 0) (a_fo 0) (a_rd 0) (a_pa 0) sv_th th_0 ++ wRules k a_ru ru_0 ++ wCourt k a_no no_0 ++ wCourt k a_fo u) (fun (r : Int32) (u : OS) => res = (u, r))) := by
  refine CG.ofI (by decide) (Nat.le_of_ble_eq_true rfl) (fun p e s m args below meth c A Q E hnm hW hA hret ls hl => ?_)
  have hl : lv_has ls 5 [(0, .ref (a_th 0)), (1, .int v1_0)] := hl
  unfold f_X8_pass at hf
  refine k_iload_n E hl 1 dX8_pass_0 rfl ?_
  refine lv_sipush (v := (2000 : Int32)) E.hx E.hb dX8_pass_1 sp_2000 ?_
  refine k_aload_n E hl 0 dX8_pass_4 rfl ?_
  refine gf_X8_31 E hW 0 rfl rfl dX8_pass_5 ?_
  refine gf_X8_108 E hW 4 rfl rfl dX8_pass_8 ?_
  refine lv_isub E.hx E.hb dX8_pass_11 ?_
  refine va_mmin E.hx E.hb (E.hml.trans hl.1.symm) E.ho (E.w tm_653 rfl) (E.w tm_537 rfl) (E.w tm_35 rfl) (E.w tm_538 rfl) (by decide) (Nat.le_of_ble_eq_true rfl) (by decide) (by decide) dX8_pass_12 ?_
  obtain ⟨v2_1, ev2_1, hf⟩ := oL hf
  refine k_istore_n (lv' := [(2, .int v2_1), (0, .ref (a_th 0)), (1, .int v1_0)]) E ev2_1 hl dX8_pass_15 rfl (by decide) rfl (fun ls hl => ?_)
  refine lv_iconst (v := (0 : Int32)) E.hx E.hb dX8_pass_16 ic_0 ?_
  refine k_istore_n (lv' := [(3, .int (0 : Int32)), (2, .int v2_1), (0, .ref (a_th 0)), (1, .int v1_0)]) E rfl hl dX8_pass_17 rfl (by decide) rfl (fun ls hl => ?_)
  refine lv_iconst (v := (0 : Int32)) E.hx E.hb dX8_pass_18 ic_0 ?_
  refine k_istore (lv' := [(4, .int (0 : Int32)), (3, .int (0 : Int32)), (2, .int v2_1), (0, .ref (a_th 0)), (1, .int v1_0)]) E rfl hl dX8_pass_19 (by decide) rfl (fun ls hl => ?_)
  have L_21 : ∀ (N_21 : Nat) (fo_j21 : OS) (w3_j21 : Int32) (w4_j21 : Int32) (H : Heap) (locs : List Loc) (ls : Array Slot) (hW : WD k A s.heap (wMCo k a_th (a_in 0) (a_ou 0) (a_ru 0) (a_no 0) (a_fo 0) (a_rd 0) (a_pa 0) sv_th th_0 ++ wRules k a_ru ru_0 ++ wCourt k a_no no_0 ++ wCourt k a_fo fo_j21) H locs) (hl : lv_has ls 5 [(0, .ref (a_th 0)), (2, .int v2_1), (3, .int w3_j21), (4, .int w4_j21)]) (hf : l_X8_pass_21 n sv_th th_0 ru_0 no_0 v2_1 N_21 fo_j21 w3_j21 w4_j21 = some res), W p l e { frames := 6, cells := 0, slots := 0, locals := 144 } s m args below meth c H locs 0 0 Q (F0 m 21 ls []) := by
    intro N_21
    induction N_21 with
    | zero => intro fo_j21 w3_j21 w4_j21 H locs ls hW hl hf; exact o0 hf
    | succ N_21 ih_21 =>
      intro fo_j21 w3_j21 w4_j21 H locs ls hW hl hf
      have hf : s_X8_pass_21 n sv_th th_0 ru_0 no_0 v2_1 (l_X8_pass_21 n sv_th th_0 ru_0 no_0 v2_1 N_21) fo_j21 w3_j21 w4_j21 = some res := hf
      unfold s_X8_pass_21 at hf
      refine k_iload E hl 3 dX8_pass_21 rfl ?_
      refine k_iload_n E hl 1 dX8_pass_23 rfl ?_
      refine lv_icmp_ge (tgt := 47) E.hx E.hb dX8_pass_24 (by decide) (fun hc => ?_) (fun hc => ?_)
      · have hf := oT hc hf
        refine k_iload_n E hl 2 dX8_pass_47 rfl ?_
        exact hret _ fo_j21 _ _ _ _ _ _ hW (Option.some.inj hf).symm rfl (by decide) (by decide) dX8_pass_48
      · have hf := oF hc hf
        refine k_iload_n E hl 2 dX8_pass_27 rfl ?_
        refine k_aload_n E hl 0 dX8_pass_28 rfl ?_
        refine gf_X8_35 E hW 0 rfl rfl dX8_pass_29 ?_
        refine k_aload_n E hl 0 dX8_pass_32 rfl ?_
        refine gf_X8_24 E hW 0 rfl rfl dX8_pass_33 ?_
        obtain ⟨fo_2, r_3, hg, hf⟩ := ob2 hf
        refine k_callVi (As := [.ref (a_ru 0)]) (rest := [.int w3_j21]) (ws2 := fun u => wMCo k a_th (a_in 0) (a_ou 0) (a_ru 0) (a_no 0) (a_fo 0) (a_rd 0) (a_pa 0) sv_th th_0 ++ wRules k a_ru ru_0 ++ wCourt k a_no no_0 ++ wCourt k a_fo (u)) (c_X2_tick n l k a_fo a_ru fo_j21 ru_0 (fo_2, r_3) hg) E vl_X8_286 dX8_pass_36 rfl (List.range' 16 12 ++ List.range' 1 3) 3 16 hW hA hl rfl (by simp only [List.map_append]; exact app2 (blk_map (wMCo k a_th (a_in 0) (a_ou 0) (a_ru 0) (a_no 0) (a_fo 0) (a_rd 0) (a_pa 0) sv_th th_0 ++ wRules k a_ru ru_0 ++ wCourt k a_no no_0) (wCourt k a_fo fo_j21) [] 16 12 (by simp only [List.append_assoc, List.nil_append, List.append_nil]) rfl rfl) (blk_map (wMCo k a_th (a_in 0) (a_ou 0) (a_ru 0) (a_no 0) (a_fo 0) (a_rd 0) (a_pa 0) sv_th th_0) (wRules k a_ru ru_0) (wCourt k a_no no_0 ++ wCourt k a_fo fo_j21) 1 3 (by simp only [List.append_assoc, List.nil_append, List.append_nil]) rfl rfl)) rfl rfl ⟨by decide, by decide⟩ ⟨by decide, by decide⟩ (Nat.le_of_ble_eq_true rfl) rfl (fun _ => rfl) (fun u => by show putW _ (_ ++ _) (_ ++ _) = _; rw [putW_app _ _ _ _ _ rfl, blk_put (wMCo k a_th (a_in 0) (a_ou 0) (a_ru 0) (a_no 0) (a_fo 0) (a_rd 0) (a_pa 0) sv_th th_0 ++ wRules k a_ru ru_0 ++ wCourt k a_no no_0) (wCourt k a_fo fo_j21) [] (wCourt k a_fo (u)) 16 12 (by simp only [List.append_assoc, List.nil_append, List.append_nil]) rfl rfl rfl, blk_put (wMCo k a_th (a_in 0) (a_ou 0) (a_ru 0) (a_no 0) (a_fo 0) (a_rd 0) (a_pa 0) sv_th th_0) (wRules k a_ru ru_0) (wCourt k a_no no_0 ++ wCourt k a_fo (u)) (wRules k a_ru ru_0) 1 3 (by simp only [List.append_assoc, List.nil_append, List.append_nil]) rfl rfl rfl]; try simp only [List.append_assoc, List.nil_append, List.append_nil]) (fun r u H locs hp hW => ?_)
        cases hp
        have hW : WD k A s.heap (wMCo k a_th (a_in 0) (a_ou 0) (a_ru 0) (a_no 0) (a_fo 0) (a_rd 0) (a_pa 0) sv_th th_0 ++ wRules k a_ru ru_0 ++ wCourt k a_no no_0 ++ wCourt k a_fo fo_2) H locs := hW
        refine lv_iadd E.hx E.hb dX8_pass_39 ?_
        obtain ⟨v3_4, ev3_4, hf⟩ := oL hf
        refine k_istore_n (lv' := [(3, .int v3_4), (0, .ref (a_th 0)), (2, .int v2_1), (4, .int w4_j21)]) E ev3_4 hl dX8_pass_40 rfl (by decide) rfl (fun ls hl => ?_)
        obtain ⟨v4_5, ev4_5, hf⟩ := oL hf
        refine k_iinc (lv' := [(4, .int v4_5), (3, .int v3_4), (0, .ref (a_th 0)), (2, .int v2_1)]) E hl 3 dX8_pass_41 rfl (ev4_5.trans (congrArg (fun z => w4_j21 + z) ic_1.symm)) (by decide) rfl (fun ls hl => ?_)
        refine lv_goto (tgt := 21) E.hx E.hb dX8_pass_44 (by decide) ?_
        exact ih_21 fo_2 v3_4 v4_5 _ _ _ hW (lv_sub hl [2, 3, 1, 0] rfl) hf
  exact L_21 n fo_0 (0 : Int32) (0 : Int32) _ _ _ hW (lv_sub hl [3, 2, 1, 0] rfl) hf
def s_X8_ticksUntil_44 (n : Nat) (sv_th : Value) (th_0 : OS) (ru_0 : OS) (no_0 : OS) (w1_j44 : Int32) (w2_j44 : Int32) (w4_j44 : Int32) (rc_44 : (OS) → (Int32) → Option (OS × Int32)) (fo_j44 : OS) (w5_j44 : Int32) : Option (OS × Int32) :=
  if w4_j44 < w5_j44 then (
  some (fo_j44, (-1 : Int32))) else (
  bnd2 (f_X2_tick n fo_j44 ru_0) (fun (fo_4 : OS) (r_5 : Int32) =>
  bnd (f_X6_get n (7 : Int32) 420 (fo_4.2.1 13) w1_j44 (3 : Int32)) (fun (r_6 : Int32) =>
  if r_6 = w2_j44 then (
  some (fo_4, w5_j44)) else (
  Let (w5_j44 + (1 : Int32)) (fun v5_7 : Int32 =>
  rc_44 fo_4 v5_7)))))
def l_X8_ticksUntil_44 (n : Nat) (sv_th : Value) (th_0 : OS) (ru_0 : OS) (no_0 : OS) (w1_j44 : Int32) (w2_j44 : Int32) (w4_j44 : Int32) : Nat → (OS) → (Int32) → Option (OS × Int32)
  | 0 => fun _ _ => none
  | N + 1 => s_X8_ticksUntil_44 n sv_th th_0 ru_0 no_0 w1_j44 w2_j44 w4_j44 (l_X8_ticksUntil_44 n sv_th th_0 ru_0 no_0 w1_j44 w2_j44 w4_j44 N)
def f_X8_ticksUntil (n : Nat) (sv_th : Value) (th_0 : OS) (ru_0 : OS) (no_0 : OS) (fo_0 : OS) (v1_0 : Int32) (v2_0 : Int32) (v3_0 : Int32) : Option (OS × Int32) :=
  bnd (f_X2_waits n no_0 v1_0) (fun (r_1 : Int32) =>
  if r_1 = 0 then (
  some (fo_0, (-1 : Int32))) else (
  bnd (f_X2_copyFrom n fo_0 no_0) (fun (fo_2 : OS) =>
  Let (if ((2000 : Int32) - (no_0.1 0)) < v3_0 then ((2000 : Int32) - (no_0.1 0)) else v3_0) (fun v4_3 : Int32 =>
  l_X8_ticksUntil_44 n sv_th th_0 ru_0 no_0 v1_0 v2_0 v4_3 n fo_2 (1 : Int32)))))
set_option maxHeartbeats 4000000 in
set_option maxRecDepth 100000 in
theorem c_X8_ticksUntil (n : Nat) (l : Launch) (k : KT) (a_th : Nat → Nat) (a_in : Nat → Nat) (a_ou : Nat → Nat) (a_ru : Nat → Nat) (a_no : Nat → Nat) (a_fo : Nat → Nat) (a_rd : Nat → Nat) (a_pa : Nat → Nat) (sv_th : Value) (th_0 : OS) (ru_0 : OS) (no_0 : OS) (fo_0 : OS) (v1_0 : Int32) (v2_0 : Int32) (v3_0 : Int32) (res : (OS × Int32)) (hf : f_X8_ticksUntil n sv_th th_0 ru_0 no_0 fo_0 v1_0 v2_0 v3_0 = some res) : CG l k yX8_ticksUntil cX8_ticksUntil 6 (some .int) 6 0 0 144 [.ref (a_th 0), .int v1_0, .int v2_0, .int v3_0] (wMCo k a_th (a_in 0) (a_ou 0) (a_ru 0) (a_no 0) (a_fo 0) (a_rd 0) (a_pa 0) sv_th th_0 ++ wRules k a_ru ru_0 ++ wCourt k a_no no_0 ++ wCourt k a_fo fo_0) (Qi k (fun u : OS => wMCo k a_th (a_in 0) (a_ou 0) (a_ru 0) (a_no 0) (a_fo 0) (a_rd 0) (a_pa 0) sv_th th_0 ++ wRules k a_ru ru_0 ++ wCourt k a_no no_0 ++ wCourt k a_fo u) (fun (r : Int32) (u : OS) => res = (u, r))) := by
  refine CG.ofI (by decide) (Nat.le_of_ble_eq_true rfl) (fun p e s m args below meth c A Q E hnm hW hA hret ls hl => ?_)
  have hl : lv_has ls 6 [(0, .ref (a_th 0)), (1, .int v1_0), (2, .int v2_0), (3, .int v3_0)] := hl
  unfold f_X8_ticksUntil at hf
  refine k_aload_n E hl 0 dX8_ticksUntil_0 rfl ?_
  refine gf_X8_31 E hW 0 rfl rfl dX8_ticksUntil_1 ?_
  refine k_iload_n E hl 1 dX8_ticksUntil_4 rfl ?_
  obtain ⟨r_1, hg, hf⟩ := ob hf
  refine k_callVi (As := [.int v1_0]) (rest := []) (ws2 := fun u => wMCo k a_th (a_in 0) (a_ou 0) (a_ru 0) (a_no 0) (a_fo 0) (a_rd 0) (a_pa 0) sv_th th_0 ++ wRules k a_ru ru_0 ++ wCourt k a_no no_0 ++ wCourt k a_fo fo_0) (c_X2_waits n l k a_no no_0 v1_0 r_1 hg) E vl_X8_298 dX8_ticksUntil_5 rfl (List.range' 4 12) 3 4 hW hA hl rfl (by exact blk_map (wMCo k a_th (a_in 0) (a_ou 0) (a_ru 0) (a_no 0) (a_fo 0) (a_rd 0) (a_pa 0) sv_th th_0 ++ wRules k a_ru ru_0) (wCourt k a_no no_0) (wCourt k a_fo fo_0) 4 12 (by simp only [List.append_assoc, List.nil_append, List.append_nil]) rfl rfl) rfl rfl ⟨by decide, by decide⟩ ⟨by decide, by decide⟩ (Nat.le_of_ble_eq_true rfl) rfl (fun _ => rfl) (fun u => by rw [blk_put (wMCo k a_th (a_in 0) (a_ou 0) (a_ru 0) (a_no 0) (a_fo 0) (a_rd 0) (a_pa 0) sv_th th_0 ++ wRules k a_ru ru_0) (wCourt k a_no no_0) (wCourt k a_fo fo_0) (wCourt k a_no no_0) 4 12 (by simp only [List.append_assoc, List.nil_append, List.append_nil]) rfl rfl rfl]; try simp only [List.append_assoc, List.nil_append, List.append_nil]) (fun r u H locs hp hW => ?_)
  cases hp
  have hW : WD k A s.heap (wMCo k a_th (a_in 0) (a_ou 0) (a_ru 0) (a_no 0) (a_fo 0) (a_rd 0) (a_pa 0) sv_th th_0 ++ wRules k a_ru ru_0 ++ wCourt k a_no no_0 ++ wCourt k a_fo fo_0) H locs := hW
  refine lv_if_ne (tgt := 13) E.hx E.hb dX8_ticksUntil_8 (by decide) (fun hc => ?_) (fun hc => ?_)
  · have hf := oF hc hf
    refine k_aload_n E hl 0 dX8_ticksUntil_13 rfl ?_
    refine gf_X8_35 E hW 0 rfl rfl dX8_ticksUntil_14 ?_
    refine k_aload_n E hl 0 dX8_ticksUntil_17 rfl ?_
    refine gf_X8_31 E hW 0 rfl rfl dX8_ticksUntil_18 ?_
    obtain ⟨fo_2, hg, hf⟩ := ob hf
    refine k_callVv (As := [.ref (a_no 0)]) (rest := []) (ws2 := fun u => wMCo k a_th (a_in 0) (a_ou 0) (a_ru 0) (a_no 0) (a_fo 0) (a_rd 0) (a_pa 0) sv_th th_0 ++ wRules k a_ru ru_0 ++ wCourt k a_no no_0 ++ wCourt k a_fo (u)) (c_X2_copyFrom n l k a_fo a_no fo_0 no_0 fo_2 hg) E vl_X8_90 dX8_ticksUntil_21 rfl (List.range' 16 12 ++ List.range' 4 12) 3 16 hW hA hl rfl (by simp only [List.map_append]; exact app2 (blk_map (wMCo k a_th (a_in 0) (a_ou 0) (a_ru 0) (a_no 0) (a_fo 0) (a_rd 0) (a_pa 0) sv_th th_0 ++ wRules k a_ru ru_0 ++ wCourt k a_no no_0) (wCourt k a_fo fo_0) [] 16 12 (by simp only [List.append_assoc, List.nil_append, List.append_nil]) rfl rfl) (blk_map (wMCo k a_th (a_in 0) (a_ou 0) (a_ru 0) (a_no 0) (a_fo 0) (a_rd 0) (a_pa 0) sv_th th_0 ++ wRules k a_ru ru_0) (wCourt k a_no no_0) (wCourt k a_fo fo_0) 4 12 (by simp only [List.append_assoc, List.nil_append, List.append_nil]) rfl rfl)) rfl rfl ⟨by decide, by decide⟩ ⟨by decide, by decide⟩ (Nat.le_of_ble_eq_true rfl) rfl (fun _ => rfl) (fun u => by show putW _ (_ ++ _) (_ ++ _) = _; rw [putW_app _ _ _ _ _ rfl, blk_put (wMCo k a_th (a_in 0) (a_ou 0) (a_ru 0) (a_no 0) (a_fo 0) (a_rd 0) (a_pa 0) sv_th th_0 ++ wRules k a_ru ru_0 ++ wCourt k a_no no_0) (wCourt k a_fo fo_0) [] (wCourt k a_fo (u)) 16 12 (by simp only [List.append_assoc, List.nil_append, List.append_nil]) rfl rfl rfl, blk_put (wMCo k a_th (a_in 0) (a_ou 0) (a_ru 0) (a_no 0) (a_fo 0) (a_rd 0) (a_pa 0) sv_th th_0 ++ wRules k a_ru ru_0) (wCourt k a_no no_0) (wCourt k a_fo (u)) (wCourt k a_no no_0) 4 12 (by simp only [List.append_assoc, List.nil_append, List.append_nil]) rfl rfl rfl]; try simp only [List.append_assoc, List.nil_append, List.append_nil]) (fun u H locs hp hW => ?_)
    cases hp
    have hW : WD k A s.heap (wMCo k a_th (a_in 0) (a_ou 0) (a_ru 0) (a_no 0) (a_fo 0) (a_rd 0) (a_pa 0) sv_th th_0 ++ wRules k a_ru ru_0 ++ wCourt k a_no no_0 ++ wCourt k a_fo fo_2) H locs := hW
    refine k_iload_n E hl 3 dX8_ticksUntil_24 rfl ?_
    refine lv_sipush (v := (2000 : Int32)) E.hx E.hb dX8_ticksUntil_25 sp_2000 ?_
    refine k_aload_n E hl 0 dX8_ticksUntil_28 rfl ?_
    refine gf_X8_31 E hW 0 rfl rfl dX8_ticksUntil_29 ?_
    refine gf_X8_108 E hW 4 rfl rfl dX8_ticksUntil_32 ?_
    refine lv_isub E.hx E.hb dX8_ticksUntil_35 ?_
    refine va_mmin E.hx E.hb (E.hml.trans hl.1.symm) E.ho (E.w tm_653 rfl) (E.w tm_537 rfl) (E.w tm_35 rfl) (E.w tm_538 rfl) (by decide) (Nat.le_of_ble_eq_true rfl) (by decide) (by decide) dX8_ticksUntil_36 ?_
    obtain ⟨v4_3, ev4_3, hf⟩ := oL hf
    refine k_istore (lv' := [(4, .int v4_3), (0, .ref (a_th 0)), (1, .int v1_0), (2, .int v2_0), (3, .int v3_0)]) E ev4_3 hl dX8_ticksUntil_39 (by decide) rfl (fun ls hl => ?_)
    refine lv_iconst (v := (1 : Int32)) E.hx E.hb dX8_ticksUntil_41 ic_1 ?_
    refine k_istore (lv' := [(5, .int (1 : Int32)), (4, .int v4_3), (0, .ref (a_th 0)), (1, .int v1_0), (2, .int v2_0), (3, .int v3_0)]) E rfl hl dX8_ticksUntil_42 (by decide) rfl (fun ls hl => ?_)
    have L_44 : ∀ (N_44 : Nat) (fo_j44 : OS) (w5_j44 : Int32) (H : Heap) (locs : List Loc) (ls : Array Slot) (hW : WD k A s.heap (wMCo k a_th (a_in 0) (a_ou 0) (a_ru 0) (a_no 0) (a_fo 0) (a_rd 0) (a_pa 0) sv_th th_0 ++ wRules k a_ru ru_0 ++ wCourt k a_no no_0 ++ wCourt k a_fo fo_j44) H locs) (hl : lv_has ls 6 [(0, .ref (a_th 0)), (1, .int v1_0), (2, .int v2_0), (4, .int v4_3), (5, .int w5_j44)]) (hf : l_X8_ticksUntil_44 n sv_th th_0 ru_0 no_0 v1_0 v2_0 v4_3 N_44 fo_j44 w5_j44 = some res), W p l e { frames := 6, cells := 0, slots := 0, locals := 144 } s m args below meth c H locs 0 0 Q (F0 m 44 ls []) := by
      intro N_44
      induction N_44 with
      | zero => intro fo_j44 w5_j44 H locs ls hW hl hf; exact o0 hf
      | succ N_44 ih_44 =>
        intro fo_j44 w5_j44 H locs ls hW hl hf
        have hf : s_X8_ticksUntil_44 n sv_th th_0 ru_0 no_0 v1_0 v2_0 v4_3 (l_X8_ticksUntil_44 n sv_th th_0 ru_0 no_0 v1_0 v2_0 v4_3 N_44) fo_j44 w5_j44 = some res := hf
        unfold s_X8_ticksUntil_44 at hf
        refine k_iload E hl 4 dX8_ticksUntil_44 rfl ?_
        refine k_iload E hl 3 dX8_ticksUntil_46 rfl ?_
        refine lv_icmp_gt (tgt := 88) E.hx E.hb dX8_ticksUntil_48 (by decide) (fun hc => ?_) (fun hc => ?_)
        · have hf := oT hc hf
          refine lv_iconst (v := (-1 : Int32)) E.hx E.hb dX8_ticksUntil_88 ic_m1 ?_
          exact hret _ fo_j44 _ _ _ _ _ _ hW (Option.some.inj hf).symm rfl (by decide) (by decide) dX8_ticksUntil_89
        · have hf := oF hc hf
          refine k_aload_n E hl 0 dX8_ticksUntil_51 rfl ?_
          refine gf_X8_35 E hW 0 rfl rfl dX8_ticksUntil_52 ?_
          refine k_aload_n E hl 0 dX8_ticksUntil_55 rfl ?_
          refine gf_X8_24 E hW 0 rfl rfl dX8_ticksUntil_56 ?_
          obtain ⟨fo_4, r_5, hg, hf⟩ := ob2 hf
          refine k_callVi (As := [.ref (a_ru 0)]) (rest := []) (ws2 := fun u => wMCo k a_th (a_in 0) (a_ou 0) (a_ru 0) (a_no 0) (a_fo 0) (a_rd 0) (a_pa 0) sv_th th_0 ++ wRules k a_ru ru_0 ++ wCourt k a_no no_0 ++ wCourt k a_fo (u)) (c_X2_tick n l k a_fo a_ru fo_j44 ru_0 (fo_4, r_5) hg) E vl_X8_286 dX8_ticksUntil_59 rfl (List.range' 16 12 ++ List.range' 1 3) 3 16 hW hA hl rfl (by simp only [List.map_append]; exact app2 (blk_map (wMCo k a_th (a_in 0) (a_ou 0) (a_ru 0) (a_no 0) (a_fo 0) (a_rd 0) (a_pa 0) sv_th th_0 ++ wRules k a_ru ru_0 ++ wCourt k a_no no_0) (wCourt k a_fo fo_j44) [] 16 12 (by simp only [List.append_assoc, List.nil_append, List.append_nil]) rfl rfl) (blk_map (wMCo k a_th (a_in 0) (a_ou 0) (a_ru 0) (a_no 0) (a_fo 0) (a_rd 0) (a_pa 0) sv_th th_0) (wRules k a_ru ru_0) (wCourt k a_no no_0 ++ wCourt k a_fo fo_j44) 1 3 (by simp only [List.append_assoc, List.nil_append, List.append_nil]) rfl rfl)) rfl rfl ⟨by decide, by decide⟩ ⟨by decide, by decide⟩ (Nat.le_of_ble_eq_true rfl) rfl (fun _ => rfl) (fun u => by show putW _ (_ ++ _) (_ ++ _) = _; rw [putW_app _ _ _ _ _ rfl, blk_put (wMCo k a_th (a_in 0) (a_ou 0) (a_ru 0) (a_no 0) (a_fo 0) (a_rd 0) (a_pa 0) sv_th th_0 ++ wRules k a_ru ru_0 ++ wCourt k a_no no_0) (wCourt k a_fo fo_j44) [] (wCourt k a_fo (u)) 16 12 (by simp only [List.append_assoc, List.nil_append, List.append_nil]) rfl rfl rfl, blk_put (wMCo k a_th (a_in 0) (a_ou 0) (a_ru 0) (a_no 0) (a_fo 0) (a_rd 0) (a_pa 0) sv_th th_0) (wRules k a_ru ru_0) (wCourt k a_no no_0 ++ wCourt k a_fo (u)) (wRules k a_ru ru_0) 1 3 (by simp only [List.append_assoc, List.nil_append, List.append_nil]) rfl rfl rfl]; try simp only [List.append_assoc, List.nil_append, List.append_nil]) (fun r u H locs hp hW => ?_)
          cases hp
          have hW : WD k A s.heap (wMCo k a_th (a_in 0) (a_ou 0) (a_ru 0) (a_no 0) (a_fo 0) (a_rd 0) (a_pa 0) sv_th th_0 ++ wRules k a_ru ru_0 ++ wCourt k a_no no_0 ++ wCourt k a_fo fo_4) H locs := hW
          refine lv_pop E.hx E.hb dX8_ticksUntil_62 rfl ?_
          refine k_aload_n E hl 0 dX8_ticksUntil_63 rfl ?_
          refine gf_X8_35 E hW 0 rfl rfl dX8_ticksUntil_64 ?_
          refine gf_X8_222 E hW 16 rfl rfl dX8_ticksUntil_67 ?_
          refine k_iload_n E hl 1 dX8_ticksUntil_70 rfl ?_
          refine lv_iconst (v := (3 : Int32)) E.hx E.hb dX8_ticksUntil_71 ic_3 ?_
          obtain ⟨r_6, hg, hf⟩ := ob hf
          refine k_callVi (As := [.int v1_0, .int (3 : Int32)]) (rest := []) (ws2 := fun u => wMCo k a_th (a_in 0) (a_ou 0) (a_ru 0) (a_no 0) (a_fo 0) (a_rd 0) (a_pa 0) sv_th th_0 ++ wRules k a_ru ru_0 ++ wCourt k a_no no_0 ++ wCourt k a_fo fo_4) (c_X6_get n l k (fun j => a_fo (7 + j)) (7 : Int32) 420 (fo_4.2.1 13) v1_0 (3 : Int32) r_6 hg) E vl_X8_171 dX8_ticksUntil_72 rfl [23, 24] 7 23 hW hA hl rfl rfl rfl rfl ⟨by decide, by decide⟩ ⟨by decide, by decide⟩ (Nat.le_of_ble_eq_true rfl) rfl (fun _ => rfl) (fun _ => rfl) (fun r u H locs hp hW => ?_)
          cases hp
          have hW : WD k A s.heap (wMCo k a_th (a_in 0) (a_ou 0) (a_ru 0) (a_no 0) (a_fo 0) (a_rd 0) (a_pa 0) sv_th th_0 ++ wRules k a_ru ru_0 ++ wCourt k a_no no_0 ++ wCourt k a_fo fo_4) H locs := hW
          refine k_iload_n E hl 2 dX8_ticksUntil_75 rfl ?_
          refine lv_icmp_ne (tgt := 82) E.hx E.hb dX8_ticksUntil_76 (by decide) (fun hc => ?_) (fun hc => ?_)
          · have hf := oF hc hf
            obtain ⟨v5_7, ev5_7, hf⟩ := oL hf
            refine k_iinc (lv' := [(5, .int v5_7), (0, .ref (a_th 0)), (1, .int v1_0), (2, .int v2_0), (4, .int v4_3)]) E hl 4 dX8_ticksUntil_82 rfl (ev5_7.trans (congrArg (fun z => w5_j44 + z) ic_1.symm)) (by decide) rfl (fun ls hl => ?_)
            refine lv_goto (tgt := 44) E.hx E.hb dX8_ticksUntil_85 (by decide) ?_
            exact ih_44 fo_4 v5_7 _ _ _ hW (lv_sub hl [1, 2, 3, 4, 0] rfl) hf
          · have hf := oT hc hf
            refine k_iload E hl 4 dX8_ticksUntil_79 rfl ?_
            exact hret _ fo_4 _ _ _ _ _ _ hW (Option.some.inj hf).symm rfl (by decide) (by decide) dX8_ticksUntil_81
    exact L_44 n fo_2 (1 : Int32) _ _ _ hW (lv_sub hl [2, 3, 4, 1, 0] rfl) hf
  · have hf := oT hc hf
    refine lv_iconst (v := (-1 : Int32)) E.hx E.hb dX8_ticksUntil_11 ic_m1 ?_
    exact hret _ fo_0 _ _ _ _ _ _ hW (Option.some.inj hf).symm rfl (by decide) (by decide) dX8_ticksUntil_12
def f_X8_metIn (n : Nat) (sv_th : Value) (th_0 : OS) (ru_0 : OS) (no_0 : OS) (fo_0 : OS) (v1_0 : Int32) (v2_0 : Int32) : Option (OS × Int32 × Nat) :=
  bnd (f_X8_needClaim n sv_th th_0 no_0 v1_0) (fun (cd_1 : Nat) =>
  if cd_1 = 0 then (
  bnd (f_X8_needTicks n sv_th th_0 v2_0) (fun (cd_2 : Nat) =>
  if cd_2 = 0 then (
  bnd2 (f_X8_ticksUntil n sv_th th_0 ru_0 no_0 fo_0 v1_0 (1 : Int32) v2_0) (fun (fo_3 : OS) (r_4 : Int32) =>
  some (fo_3, r_4, 0))) else (
  some (fo_0, (0 : Int32), cd_2)))) else (
  some (fo_0, (0 : Int32), cd_1)))
set_option maxHeartbeats 4000000 in
set_option maxRecDepth 100000 in
theorem c_X8_metIn (n : Nat) (l : Launch) (k : KT) (a_th : Nat → Nat) (a_in : Nat → Nat) (a_ou : Nat → Nat) (a_ru : Nat → Nat) (a_no : Nat → Nat) (a_fo : Nat → Nat) (a_rd : Nat → Nat) (a_pa : Nat → Nat) (sv_th : Value) (th_0 : OS) (ru_0 : OS) (no_0 : OS) (fo_0 : OS) (v1_0 : Int32) (v2_0 : Int32) (res : (OS × Int32 × Nat)) (hf : f_X8_metIn n sv_th th_0 ru_0 no_0 fo_0 v1_0 v2_0 = some res) (h0 : res.2.2 = 0) : CG l k yX8_metIn cX8_metIn 3 (some .int) 7 0 0 169 [.ref (a_th 0), .int v1_0, .int v2_0] (wMCo k a_th (a_in 0) (a_ou 0) (a_ru 0) (a_no 0) (a_fo 0) (a_rd 0) (a_pa 0) sv_th th_0 ++ wRules k a_ru ru_0 ++ wCourt k a_no no_0 ++ wCourt k a_fo fo_0) (Qi k (fun u : OS => wMCo k a_th (a_in 0) (a_ou 0) (a_ru 0) (a_no 0) (a_fo 0) (a_rd 0) (a_pa 0) sv_th th_0 ++ wRules k a_ru ru_0 ++ wCourt k a_no no_0 ++ wCourt k a_fo u) (fun (r : Int32) (u : OS) => res = (u, r, 0))) := by
  refine CG.ofI (by decide) (Nat.le_of_ble_eq_true rfl) (fun p e s m args below meth c A Q E hnm hW hA hret ls hl => ?_)
  have hl : lv_has ls 3 [(0, .ref (a_th 0)), (1, .int v1_0), (2, .int v2_0)] := hl
  unfold f_X8_metIn at hf
  refine k_aload_n E hl 0 dX8_metIn_0 rfl ?_
  refine k_iload_n E hl 1 dX8_metIn_1 rfl ?_
  obtain ⟨cd_1, hg, hf⟩ := ob hf
  by_cases hcd : cd_1 = 0
  rotate_left
  · have hf := oF hcd hf
    cases hf; exact absurd h0 hcd
  replace hf := oT hcd hf
  refine k_callVv (As := [.int v1_0]) (rest := []) (ws2 := fun u => wMCo k a_th (a_in 0) (a_ou 0) (a_ru 0) (a_no 0) (a_fo 0) (a_rd 0) (a_pa 0) sv_th th_0 ++ wRules k a_ru ru_0 ++ wCourt k a_no no_0 ++ wCourt k a_fo fo_0) (c_X8_needClaim n l k a_th a_in a_ou a_ru a_no a_fo a_rd a_pa sv_th th_0 no_0 v1_0 cd_1 hg hcd) E vl_X8_217 dX8_metIn_2 rfl (List.range' 0 1 ++ List.range' 4 12) 8 0 hW hA hl rfl (by simp only [List.map_append]; exact app2 (blk_map [] (wMCo k a_th (a_in 0) (a_ou 0) (a_ru 0) (a_no 0) (a_fo 0) (a_rd 0) (a_pa 0) sv_th th_0) (wRules k a_ru ru_0 ++ wCourt k a_no no_0 ++ wCourt k a_fo fo_0) 0 1 (by simp only [List.append_assoc, List.nil_append, List.append_nil]) rfl rfl) (blk_map (wMCo k a_th (a_in 0) (a_ou 0) (a_ru 0) (a_no 0) (a_fo 0) (a_rd 0) (a_pa 0) sv_th th_0 ++ wRules k a_ru ru_0) (wCourt k a_no no_0) (wCourt k a_fo fo_0) 4 12 (by simp only [List.append_assoc, List.nil_append, List.append_nil]) rfl rfl)) rfl rfl ⟨by decide, by decide⟩ ⟨by decide, by decide⟩ (Nat.le_of_ble_eq_true rfl) rfl (fun _ => rfl) (fun u => by show putW _ (_ ++ _) (_ ++ _) = _; rw [putW_app _ _ _ _ _ rfl, blk_put [] (wMCo k a_th (a_in 0) (a_ou 0) (a_ru 0) (a_no 0) (a_fo 0) (a_rd 0) (a_pa 0) sv_th th_0) (wRules k a_ru ru_0 ++ wCourt k a_no no_0 ++ wCourt k a_fo fo_0) (wMCo k a_th (a_in 0) (a_ou 0) (a_ru 0) (a_no 0) (a_fo 0) (a_rd 0) (a_pa 0) sv_th th_0) 0 1 (by simp only [List.append_assoc, List.nil_append, List.append_nil]) rfl rfl rfl, blk_put (wMCo k a_th (a_in 0) (a_ou 0) (a_ru 0) (a_no 0) (a_fo 0) (a_rd 0) (a_pa 0) sv_th th_0 ++ wRules k a_ru ru_0) (wCourt k a_no no_0) (wCourt k a_fo fo_0) (wCourt k a_no no_0) 4 12 (by simp only [List.append_assoc, List.nil_append, List.append_nil]) rfl rfl rfl]; try simp only [List.append_assoc, List.nil_append, List.append_nil]) (fun u H locs hp hW => ?_)
  cases hp
  have hW : WD k A s.heap (wMCo k a_th (a_in 0) (a_ou 0) (a_ru 0) (a_no 0) (a_fo 0) (a_rd 0) (a_pa 0) sv_th th_0 ++ wRules k a_ru ru_0 ++ wCourt k a_no no_0 ++ wCourt k a_fo fo_0) H locs := hW
  refine k_aload_n E hl 0 dX8_metIn_5 rfl ?_
  refine k_iload_n E hl 2 dX8_metIn_6 rfl ?_
  obtain ⟨cd_2, hg, hf⟩ := ob hf
  by_cases hcd : cd_2 = 0
  rotate_left
  · have hf := oF hcd hf
    cases hf; exact absurd h0 hcd
  replace hf := oT hcd hf
  refine k_callVv (As := [.int v2_0]) (rest := []) (ws2 := fun u => wMCo k a_th (a_in 0) (a_ou 0) (a_ru 0) (a_no 0) (a_fo 0) (a_rd 0) (a_pa 0) sv_th th_0 ++ wRules k a_ru ru_0 ++ wCourt k a_no no_0 ++ wCourt k a_fo fo_0) (c_X8_needTicks n l k a_th a_in a_ou a_ru a_no a_fo a_rd a_pa sv_th th_0 v2_0 cd_2 hg hcd) E vl_X8_275 dX8_metIn_7 rfl [0] 8 0 hW hA hl rfl rfl rfl rfl ⟨by decide, by decide⟩ ⟨by decide, by decide⟩ (Nat.le_of_ble_eq_true rfl) rfl (fun _ => rfl) (fun _ => rfl) (fun u H locs hp hW => ?_)
  cases hp
  have hW : WD k A s.heap (wMCo k a_th (a_in 0) (a_ou 0) (a_ru 0) (a_no 0) (a_fo 0) (a_rd 0) (a_pa 0) sv_th th_0 ++ wRules k a_ru ru_0 ++ wCourt k a_no no_0 ++ wCourt k a_fo fo_0) H locs := hW
  refine k_aload_n E hl 0 dX8_metIn_10 rfl ?_
  refine k_iload_n E hl 1 dX8_metIn_11 rfl ?_
  refine lv_iconst (v := (1 : Int32)) E.hx E.hb dX8_metIn_12 ic_1 ?_
  refine k_iload_n E hl 2 dX8_metIn_13 rfl ?_
  obtain ⟨fo_3, r_4, hg, hf⟩ := ob2 hf
  refine k_callVi (As := [.int v1_0, .int (1 : Int32), .int v2_0]) (rest := []) (ws2 := fun u => wMCo k a_th (a_in 0) (a_ou 0) (a_ru 0) (a_no 0) (a_fo 0) (a_rd 0) (a_pa 0) sv_th th_0 ++ wRules k a_ru ru_0 ++ wCourt k a_no no_0 ++ wCourt k a_fo (u)) (c_X8_ticksUntil n l k a_th a_in a_ou a_ru a_no a_fo a_rd a_pa sv_th th_0 ru_0 no_0 fo_0 v1_0 (1 : Int32) v2_0 (fo_3, r_4) hg) E vl_X8_338 dX8_metIn_14 rfl (List.range' 0 28) 8 0 hW hA hl rfl (blk_map [] (wMCo k a_th (a_in 0) (a_ou 0) (a_ru 0) (a_no 0) (a_fo 0) (a_rd 0) (a_pa 0) sv_th th_0 ++ wRules k a_ru ru_0 ++ wCourt k a_no no_0 ++ wCourt k a_fo fo_0) [] 0 28 (by simp only [List.nil_append, List.append_nil]) rfl rfl) rfl rfl ⟨by decide, by decide⟩ ⟨by decide, by decide⟩ (Nat.le_of_ble_eq_true rfl) rfl (fun _ => rfl) (fun u => by rw [blk_put [] (wMCo k a_th (a_in 0) (a_ou 0) (a_ru 0) (a_no 0) (a_fo 0) (a_rd 0) (a_pa 0) sv_th th_0 ++ wRules k a_ru ru_0 ++ wCourt k a_no no_0 ++ wCourt k a_fo fo_0) [] (wMCo k a_th (a_in 0) (a_ou 0) (a_ru 0) (a_no 0) (a_fo 0) (a_rd 0) (a_pa 0) sv_th th_0 ++ wRules k a_ru ru_0 ++ wCourt k a_no no_0 ++ wCourt k a_fo (u)) 0 28 (by simp only [List.nil_append, List.append_nil]) rfl rfl rfl]; try simp only [List.nil_append, List.append_nil]) (fun r u H locs hp hW => ?_)
  cases hp
  have hW : WD k A s.heap (wMCo k a_th (a_in 0) (a_ou 0) (a_ru 0) (a_no 0) (a_fo 0) (a_rd 0) (a_pa 0) sv_th th_0 ++ wRules k a_ru ru_0 ++ wCourt k a_no no_0 ++ wCourt k a_fo fo_3) H locs := hW
  exact hret _ fo_3 _ _ _ _ _ _ hW (Option.some.inj hf).symm rfl (by decide) (by decide) dX8_metIn_17
def f_X8_processIn (n : Nat) (sv_th : Value) (th_0 : OS) (ru_0 : OS) (no_0 : OS) (fo_0 : OS) (v1_0 : Int32) (v2_0 : Int32) (v3_0 : Int32) : Option (OS × Int32 × Nat) :=
  bnd (f_X8_needProcess n sv_th th_0 ru_0 v1_0) (fun (cd_1 : Nat) =>
  if cd_1 = 0 then (
  bnd (f_X8_needTicks n sv_th th_0 v2_0) (fun (cd_2 : Nat) =>
  if cd_2 = 0 then (
  if v3_0 < 0 then (
  some (fo_0, (0 : Int32), 2)) else (
  if v3_0 ≤ (2 : Int32) then (
  bnd (f_X2_copyFrom n fo_0 no_0) (fun (fo_3 : OS) =>
  bnd2 (f_X8_pass n sv_th th_0 ru_0 no_0 fo_3 v2_0) (fun (fo_4 : OS) (r_5 : Int32) =>
  if v3_0 = (2 : Int32) then (
  bnd (f_X2_heldPages n fo_4 v1_0) (fun (r_8 : Int32) =>
  some (fo_4, r_8, 0))) else (
  if v3_0 = 0 then (
  bnd (f_X6_get n (5 : Int32) 40 (fo_4.2.1 11) v1_0 (0 : Int32)) (fun (r_7 : Int32) =>
  some (fo_4, r_7, 0))) else (
  bnd (f_X6_get n (5 : Int32) 40 (fo_4.2.1 11) v1_0 (1 : Int32)) (fun (r_6 : Int32) =>
  some (fo_4, r_6, 0))))))) else (
  some (fo_0, (0 : Int32), 2)))) else (
  some (fo_0, (0 : Int32), cd_2)))) else (
  some (fo_0, (0 : Int32), cd_1)))
set_option maxHeartbeats 4000000 in
set_option maxRecDepth 100000 in
theorem c_X8_processIn (n : Nat) (l : Launch) (k : KT) (a_th : Nat → Nat) (a_in : Nat → Nat) (a_ou : Nat → Nat) (a_ru : Nat → Nat) (a_no : Nat → Nat) (a_fo : Nat → Nat) (a_rd : Nat → Nat) (a_pa : Nat → Nat) (sv_th : Value) (th_0 : OS) (ru_0 : OS) (no_0 : OS) (fo_0 : OS) (v1_0 : Int32) (v2_0 : Int32) (v3_0 : Int32) (res : (OS × Int32 × Nat)) (hf : f_X8_processIn n sv_th th_0 ru_0 no_0 fo_0 v1_0 v2_0 v3_0 = some res) (h0 : res.2.2 = 0) : CG l k yX8_processIn cX8_processIn 4 (some .int) 7 0 0 168 [.ref (a_th 0), .int v1_0, .int v2_0, .int v3_0] (wMCo k a_th (a_in 0) (a_ou 0) (a_ru 0) (a_no 0) (a_fo 0) (a_rd 0) (a_pa 0) sv_th th_0 ++ wRules k a_ru ru_0 ++ wCourt k a_no no_0 ++ wCourt k a_fo fo_0) (Qi k (fun u : OS => wMCo k a_th (a_in 0) (a_ou 0) (a_ru 0) (a_no 0) (a_fo 0) (a_rd 0) (a_pa 0) sv_th th_0 ++ wRules k a_ru ru_0 ++ wCourt k a_no no_0 ++ wCourt k a_fo u) (fun (r : Int32) (u : OS) => res = (u, r, 0))) := by
  refine CG.ofI (by decide) (Nat.le_of_ble_eq_true rfl) (fun p e s m args below meth c A Q E hnm hW hA hret ls hl => ?_)
  have hl : lv_has ls 4 [(0, .ref (a_th 0)), (1, .int v1_0), (2, .int v2_0), (3, .int v3_0)] := hl
  unfold f_X8_processIn at hf
  refine k_aload_n E hl 0 dX8_processIn_0 rfl ?_
  refine k_iload_n E hl 1 dX8_processIn_1 rfl ?_
  obtain ⟨cd_1, hg, hf⟩ := ob hf
  by_cases hcd : cd_1 = 0
  rotate_left
  · have hf := oF hcd hf
    cases hf; exact absurd h0 hcd
  replace hf := oT hcd hf
  refine k_callVv (As := [.int v1_0]) (rest := []) (ws2 := fun u => wMCo k a_th (a_in 0) (a_ou 0) (a_ru 0) (a_no 0) (a_fo 0) (a_rd 0) (a_pa 0) sv_th th_0 ++ wRules k a_ru ru_0 ++ wCourt k a_no no_0 ++ wCourt k a_fo fo_0) (c_X8_needProcess n l k a_th a_in a_ou a_ru a_no a_fo a_rd a_pa sv_th th_0 ru_0 v1_0 cd_1 hg hcd) E vl_X8_165 dX8_processIn_2 rfl [0, 1, 2, 3] 8 0 hW hA hl rfl rfl rfl rfl ⟨by decide, by decide⟩ ⟨by decide, by decide⟩ (Nat.le_of_ble_eq_true rfl) rfl (fun _ => rfl) (fun _ => rfl) (fun u H locs hp hW => ?_)
  cases hp
  have hW : WD k A s.heap (wMCo k a_th (a_in 0) (a_ou 0) (a_ru 0) (a_no 0) (a_fo 0) (a_rd 0) (a_pa 0) sv_th th_0 ++ wRules k a_ru ru_0 ++ wCourt k a_no no_0 ++ wCourt k a_fo fo_0) H locs := hW
  refine k_aload_n E hl 0 dX8_processIn_5 rfl ?_
  refine k_iload_n E hl 2 dX8_processIn_6 rfl ?_
  obtain ⟨cd_2, hg, hf⟩ := ob hf
  by_cases hcd : cd_2 = 0
  rotate_left
  · have hf := oF hcd hf
    cases hf; exact absurd h0 hcd
  replace hf := oT hcd hf
  refine k_callVv (As := [.int v2_0]) (rest := []) (ws2 := fun u => wMCo k a_th (a_in 0) (a_ou 0) (a_ru 0) (a_no 0) (a_fo 0) (a_rd 0) (a_pa 0) sv_th th_0 ++ wRules k a_ru ru_0 ++ wCourt k a_no no_0 ++ wCourt k a_fo fo_0) (c_X8_needTicks n l k a_th a_in a_ou a_ru a_no a_fo a_rd a_pa sv_th th_0 v2_0 cd_2 hg hcd) E vl_X8_275 dX8_processIn_7 rfl [0] 8 0 hW hA hl rfl rfl rfl rfl ⟨by decide, by decide⟩ ⟨by decide, by decide⟩ (Nat.le_of_ble_eq_true rfl) rfl (fun _ => rfl) (fun _ => rfl) (fun u H locs hp hW => ?_)
  cases hp
  have hW : WD k A s.heap (wMCo k a_th (a_in 0) (a_ou 0) (a_ru 0) (a_no 0) (a_fo 0) (a_rd 0) (a_pa 0) sv_th th_0 ++ wRules k a_ru ru_0 ++ wCourt k a_no no_0 ++ wCourt k a_fo fo_0) H locs := hW
  refine k_iload_n E hl 3 dX8_processIn_10 rfl ?_
  refine lv_if_lt (tgt := 19) E.hx E.hb dX8_processIn_11 (by decide) (fun hc => ?_) (fun hc => ?_)
  · have hf := oT hc hf
    cases hf
    exact absurd h0 (show ¬ (2 : Nat) = 0 from by decide)
  · have hf := oF hc hf
    refine k_iload_n E hl 3 dX8_processIn_14 rfl ?_
    refine lv_iconst (v := (2 : Int32)) E.hx E.hb dX8_processIn_15 ic_2 ?_
    refine lv_icmp_le (tgt := 30) E.hx E.hb dX8_processIn_16 (by decide) (fun hc => ?_) (fun hc => ?_)
    · have hf := oT hc hf
      refine k_aload_n E hl 0 dX8_processIn_30 rfl ?_
      refine gf_X8_35 E hW 0 rfl rfl dX8_processIn_31 ?_
      refine k_aload_n E hl 0 dX8_processIn_34 rfl ?_
      refine gf_X8_31 E hW 0 rfl rfl dX8_processIn_35 ?_
      obtain ⟨fo_3, hg, hf⟩ := ob hf
      refine k_callVv (As := [.ref (a_no 0)]) (rest := []) (ws2 := fun u => wMCo k a_th (a_in 0) (a_ou 0) (a_ru 0) (a_no 0) (a_fo 0) (a_rd 0) (a_pa 0) sv_th th_0 ++ wRules k a_ru ru_0 ++ wCourt k a_no no_0 ++ wCourt k a_fo (u)) (c_X2_copyFrom n l k a_fo a_no fo_0 no_0 fo_3 hg) E vl_X8_90 dX8_processIn_38 rfl (List.range' 16 12 ++ List.range' 4 12) 3 16 hW hA hl rfl (by simp only [List.map_append]; exact app2 (blk_map (wMCo k a_th (a_in 0) (a_ou 0) (a_ru 0) (a_no 0) (a_fo 0) (a_rd 0) (a_pa 0) sv_th th_0 ++ wRules k a_ru ru_0 ++ wCourt k a_no no_0) (wCourt k a_fo fo_0) [] 16 12 (by simp only [List.append_assoc, List.nil_append, List.append_nil]) rfl rfl) (blk_map (wMCo k a_th (a_in 0) (a_ou 0) (a_ru 0) (a_no 0) (a_fo 0) (a_rd 0) (a_pa 0) sv_th th_0 ++ wRules k a_ru ru_0) (wCourt k a_no no_0) (wCourt k a_fo fo_0) 4 12 (by simp only [List.append_assoc, List.nil_append, List.append_nil]) rfl rfl)) rfl rfl ⟨by decide, by decide⟩ ⟨by decide, by decide⟩ (Nat.le_of_ble_eq_true rfl) rfl (fun _ => rfl) (fun u => by show putW _ (_ ++ _) (_ ++ _) = _; rw [putW_app _ _ _ _ _ rfl, blk_put (wMCo k a_th (a_in 0) (a_ou 0) (a_ru 0) (a_no 0) (a_fo 0) (a_rd 0) (a_pa 0) sv_th th_0 ++ wRules k a_ru ru_0 ++ wCourt k a_no no_0) (wCourt k a_fo fo_0) [] (wCourt k a_fo (u)) 16 12 (by simp only [List.append_assoc, List.nil_append, List.append_nil]) rfl rfl rfl, blk_put (wMCo k a_th (a_in 0) (a_ou 0) (a_ru 0) (a_no 0) (a_fo 0) (a_rd 0) (a_pa 0) sv_th th_0 ++ wRules k a_ru ru_0) (wCourt k a_no no_0) (wCourt k a_fo (u)) (wCourt k a_no no_0) 4 12 (by simp only [List.append_assoc, List.nil_append, List.append_nil]) rfl rfl rfl]; try simp only [List.append_assoc, List.nil_append, List.append_nil]) (fun u H locs hp hW => ?_)
      cases hp
      have hW : WD k A s.heap (wMCo k a_th (a_in 0) (a_ou 0) (a_ru 0) (a_no 0) (a_fo 0) (a_rd 0) (a_pa 0) sv_th th_0 ++ wRules k a_ru ru_0 ++ wCourt k a_no no_0 ++ wCourt k a_fo fo_3) H locs := hW
      refine k_aload_n E hl 0 dX8_processIn_41 rfl ?_
      refine k_iload_n E hl 2 dX8_processIn_42 rfl ?_
      obtain ⟨fo_4, r_5, hg, hf⟩ := ob2 hf
      refine k_callVi (As := [.int v2_0]) (rest := []) (ws2 := fun u => wMCo k a_th (a_in 0) (a_ou 0) (a_ru 0) (a_no 0) (a_fo 0) (a_rd 0) (a_pa 0) sv_th th_0 ++ wRules k a_ru ru_0 ++ wCourt k a_no no_0 ++ wCourt k a_fo (u)) (c_X8_pass n l k a_th a_in a_ou a_ru a_no a_fo a_rd a_pa sv_th th_0 ru_0 no_0 fo_3 v2_0 (fo_4, r_5) hg) E vl_X8_350 dX8_processIn_43 rfl (List.range' 0 28) 8 0 hW hA hl rfl (blk_map [] (wMCo k a_th (a_in 0) (a_ou 0) (a_ru 0) (a_no 0) (a_fo 0) (a_rd 0) (a_pa 0) sv_th th_0 ++ wRules k a_ru ru_0 ++ wCourt k a_no no_0 ++ wCourt k a_fo fo_3) [] 0 28 (by simp only [List.nil_append, List.append_nil]) rfl rfl) rfl rfl ⟨by decide, by decide⟩ ⟨by decide, by decide⟩ (Nat.le_of_ble_eq_true rfl) rfl (fun _ => rfl) (fun u => by rw [blk_put [] (wMCo k a_th (a_in 0) (a_ou 0) (a_ru 0) (a_no 0) (a_fo 0) (a_rd 0) (a_pa 0) sv_th th_0 ++ wRules k a_ru ru_0 ++ wCourt k a_no no_0 ++ wCourt k a_fo fo_3) [] (wMCo k a_th (a_in 0) (a_ou 0) (a_ru 0) (a_no 0) (a_fo 0) (a_rd 0) (a_pa 0) sv_th th_0 ++ wRules k a_ru ru_0 ++ wCourt k a_no no_0 ++ wCourt k a_fo (u)) 0 28 (by simp only [List.nil_append, List.append_nil]) rfl rfl rfl]; try simp only [List.nil_append, List.append_nil]) (fun r u H locs hp hW => ?_)
      cases hp
      have hW : WD k A s.heap (wMCo k a_th (a_in 0) (a_ou 0) (a_ru 0) (a_no 0) (a_fo 0) (a_rd 0) (a_pa 0) sv_th th_0 ++ wRules k a_ru ru_0 ++ wCourt k a_no no_0 ++ wCourt k a_fo fo_4) H locs := hW
      refine lv_pop E.hx E.hb dX8_processIn_46 rfl ?_
      refine k_iload_n E hl 3 dX8_processIn_47 rfl ?_
      refine lv_iconst (v := (2 : Int32)) E.hx E.hb dX8_processIn_48 ic_2 ?_
      refine lv_icmp_ne (tgt := 61) E.hx E.hb dX8_processIn_49 (by decide) (fun hc => ?_) (fun hc => ?_)
      · have hf := oF hc hf
        refine k_aload_n E hl 0 dX8_processIn_61 rfl ?_
        refine gf_X8_35 E hW 0 rfl rfl dX8_processIn_62 ?_
        refine gf_X8_168 E hW 16 rfl rfl dX8_processIn_65 ?_
        refine k_iload_n E hl 1 dX8_processIn_68 rfl ?_
        refine k_iload_n E hl 3 dX8_processIn_69 rfl ?_
        refine lv_if_ne (tgt := 77) E.hx E.hb dX8_processIn_70 (by decide) (fun hc => ?_) (fun hc => ?_)
        · have hf := oF hc hf
          refine lv_iconst (v := (1 : Int32)) E.hx E.hb dX8_processIn_77 ic_1 ?_
          obtain ⟨r_6, hg, hf⟩ := ob hf
          refine k_callVi (As := [.int v1_0, .int (1 : Int32)]) (rest := []) (ws2 := fun u => wMCo k a_th (a_in 0) (a_ou 0) (a_ru 0) (a_no 0) (a_fo 0) (a_rd 0) (a_pa 0) sv_th th_0 ++ wRules k a_ru ru_0 ++ wCourt k a_no no_0 ++ wCourt k a_fo fo_4) (c_X6_get n l k (fun j => a_fo (3 + j)) (5 : Int32) 40 (fo_4.2.1 11) v1_0 (1 : Int32) r_6 hg) E vl_X8_171 dX8_processIn_78 rfl [19, 20] 7 19 hW hA hl rfl rfl rfl rfl ⟨by decide, by decide⟩ ⟨by decide, by decide⟩ (Nat.le_of_ble_eq_true rfl) rfl (fun _ => rfl) (fun _ => rfl) (fun r u H locs hp hW => ?_)
          cases hp
          have hW : WD k A s.heap (wMCo k a_th (a_in 0) (a_ou 0) (a_ru 0) (a_no 0) (a_fo 0) (a_rd 0) (a_pa 0) sv_th th_0 ++ wRules k a_ru ru_0 ++ wCourt k a_no no_0 ++ wCourt k a_fo fo_4) H locs := hW
          exact hret _ fo_4 _ _ _ _ _ _ hW (Option.some.inj hf).symm rfl (by decide) (by decide) dX8_processIn_81
        · have hf := oT hc hf
          refine lv_iconst (v := (0 : Int32)) E.hx E.hb dX8_processIn_73 ic_0 ?_
          refine lv_goto (tgt := 78) E.hx E.hb dX8_processIn_74 (by decide) ?_
          obtain ⟨r_7, hg, hf⟩ := ob hf
          refine k_callVi (As := [.int v1_0, .int (0 : Int32)]) (rest := []) (ws2 := fun u => wMCo k a_th (a_in 0) (a_ou 0) (a_ru 0) (a_no 0) (a_fo 0) (a_rd 0) (a_pa 0) sv_th th_0 ++ wRules k a_ru ru_0 ++ wCourt k a_no no_0 ++ wCourt k a_fo fo_4) (c_X6_get n l k (fun j => a_fo (3 + j)) (5 : Int32) 40 (fo_4.2.1 11) v1_0 (0 : Int32) r_7 hg) E vl_X8_171 dX8_processIn_78 rfl [19, 20] 7 19 hW hA hl rfl rfl rfl rfl ⟨by decide, by decide⟩ ⟨by decide, by decide⟩ (Nat.le_of_ble_eq_true rfl) rfl (fun _ => rfl) (fun _ => rfl) (fun r u H locs hp hW => ?_)
          cases hp
          have hW : WD k A s.heap (wMCo k a_th (a_in 0) (a_ou 0) (a_ru 0) (a_no 0) (a_fo 0) (a_rd 0) (a_pa 0) sv_th th_0 ++ wRules k a_ru ru_0 ++ wCourt k a_no no_0 ++ wCourt k a_fo fo_4) H locs := hW
          exact hret _ fo_4 _ _ _ _ _ _ hW (Option.some.inj hf).symm rfl (by decide) (by decide) dX8_processIn_81
      · have hf := oT hc hf
        refine k_aload_n E hl 0 dX8_processIn_52 rfl ?_
        refine gf_X8_35 E hW 0 rfl rfl dX8_processIn_53 ?_
        refine k_iload_n E hl 1 dX8_processIn_56 rfl ?_
        obtain ⟨r_8, hg, hf⟩ := ob hf
        refine k_callVi (As := [.int v1_0]) (rest := []) (ws2 := fun u => wMCo k a_th (a_in 0) (a_ou 0) (a_ru 0) (a_no 0) (a_fo 0) (a_rd 0) (a_pa 0) sv_th th_0 ++ wRules k a_ru ru_0 ++ wCourt k a_no no_0 ++ wCourt k a_fo fo_4) (c_X2_heldPages n l k a_fo fo_4 v1_0 r_8 hg) E vl_X8_176 dX8_processIn_57 rfl (List.range' 16 12) 3 16 hW hA hl rfl (by exact blk_map (wMCo k a_th (a_in 0) (a_ou 0) (a_ru 0) (a_no 0) (a_fo 0) (a_rd 0) (a_pa 0) sv_th th_0 ++ wRules k a_ru ru_0 ++ wCourt k a_no no_0) (wCourt k a_fo fo_4) [] 16 12 (by simp only [List.append_assoc, List.nil_append, List.append_nil]) rfl rfl) rfl rfl ⟨by decide, by decide⟩ ⟨by decide, by decide⟩ (Nat.le_of_ble_eq_true rfl) rfl (fun _ => rfl) (fun u => by rw [blk_put (wMCo k a_th (a_in 0) (a_ou 0) (a_ru 0) (a_no 0) (a_fo 0) (a_rd 0) (a_pa 0) sv_th th_0 ++ wRules k a_ru ru_0 ++ wCourt k a_no no_0) (wCourt k a_fo fo_4) [] (wCourt k a_fo fo_4) 16 12 (by simp only [List.append_assoc, List.nil_append, List.append_nil]) rfl rfl rfl]; try simp only [List.append_assoc, List.nil_append, List.append_nil]) (fun r u H locs hp hW => ?_)
        cases hp
        have hW : WD k A s.heap (wMCo k a_th (a_in 0) (a_ou 0) (a_ru 0) (a_no 0) (a_fo 0) (a_rd 0) (a_pa 0) sv_th th_0 ++ wRules k a_ru ru_0 ++ wCourt k a_no no_0 ++ wCourt k a_fo fo_4) H locs := hW
        exact hret _ fo_4 _ _ _ _ _ _ hW (Option.some.inj hf).symm rfl (by decide) (by decide) dX8_processIn_60
    · have hf := oF hc hf
      cases hf
      exact absurd h0 (show ¬ (2 : Nat) = 0 from by decide)
def s_X8_bestOrder_12 (n : Nat) (sv_th : Value) (th_0 : OS) (ru_0 : OS) (no_0 : OS) (w1_j12 : Int32) (rc_12 : (OS) → (Int32) → (Int32) → (Int32) → Option (OS × Int32 × Nat)) (fo_j12 : OS) (w2_j12 : Int32) (w3_j12 : Int32) (w4_j12 : Int32) : Option (OS × Int32 × Nat) :=
  if (2 : Int32) < w4_j12 then (
  some (fo_j12, w2_j12, 0)) else (
  bnd (f_X2_copyFrom n fo_j12 no_0) (fun (fo_2 : OS) =>
  Let (sI fo_2 1 w4_j12) (fun fo_3 : OS =>
  bnd2 (f_X8_pass n sv_th th_0 ru_0 no_0 fo_3 w1_j12) (fun (fo_4 : OS) (r_5 : Int32) =>
  if r_5 ≤ w3_j12 then (
  Let (w4_j12 + (1 : Int32)) (fun v4_6 : Int32 =>
  rc_12 fo_4 w2_j12 w3_j12 v4_6)) else (
  Let (w4_j12 + (1 : Int32)) (fun v4_7 : Int32 =>
  rc_12 fo_4 w4_j12 r_5 v4_7))))))
def l_X8_bestOrder_12 (n : Nat) (sv_th : Value) (th_0 : OS) (ru_0 : OS) (no_0 : OS) (w1_j12 : Int32) : Nat → (OS) → (Int32) → (Int32) → (Int32) → Option (OS × Int32 × Nat)
  | 0 => fun _ _ _ _ => none
  | N + 1 => s_X8_bestOrder_12 n sv_th th_0 ru_0 no_0 w1_j12 (l_X8_bestOrder_12 n sv_th th_0 ru_0 no_0 w1_j12 N)
def f_X8_bestOrder (n : Nat) (sv_th : Value) (th_0 : OS) (ru_0 : OS) (no_0 : OS) (fo_0 : OS) (v1_0 : Int32) : Option (OS × Int32 × Nat) :=
  bnd (f_X8_needTicks n sv_th th_0 v1_0) (fun (cd_1 : Nat) =>
  if cd_1 = 0 then (
  l_X8_bestOrder_12 n sv_th th_0 ru_0 no_0 v1_0 n fo_0 (0 : Int32) (-1 : Int32) (0 : Int32)) else (
  some (fo_0, (0 : Int32), cd_1)))
set_option maxHeartbeats 4000000 in
set_option maxRecDepth 100000 in
theorem c_X8_bestOrder (n : Nat) (l : Launch) (k : KT) (a_th : Nat → Nat) (a_in : Nat → Nat) (a_ou : Nat → Nat) (a_ru : Nat → Nat) (a_no : Nat → Nat) (a_fo : Nat → Nat) (a_rd : Nat → Nat) (a_pa : Nat → Nat) (sv_th : Value) (th_0 : OS) (ru_0 : OS) (no_0 : OS) (fo_0 : OS) (v1_0 : Int32) (res : (OS × Int32 × Nat)) (hf : f_X8_bestOrder n sv_th th_0 ru_0 no_0 fo_0 v1_0 = some res) (h0 : res.2.2 = 0) : CG l k yX8_bestOrder cX8_bestOrder 6 (some .int) 7 0 0 168 [.ref (a_th 0), .int v1_0] (wMCo k a_th (a_in 0) (a_ou 0) (a_ru 0) (a_no 0) (a_fo 0) (a_rd 0) (a_pa 0) sv_th th_0 ++ wRules k a_ru ru_0 ++ wCourt k a_no no_0 ++ wCourt k a_fo fo_0) (Qi k (fun u : OS => wMCo k a_th (a_in 0) (a_ou 0) (a_ru 0) (a_no 0) (a_fo 0) (a_rd 0) (a_pa 0) sv_th th_0 ++ wRules k a_ru ru_0 ++ wCourt k a_no no_0 ++ wCourt k a_fo u) (fun (r : Int32) (u : OS) => res = (u, r, 0))) := by
  refine CG.ofI (by decide) (Nat.le_of_ble_eq_true rfl) (fun p e s m args below meth c A Q E hnm hW hA hret ls hl => ?_)
  have hl : lv_has ls 6 [(0, .ref (a_th 0)), (1, .int v1_0)] := hl
  unfold f_X8_bestOrder at hf
  refine k_aload_n E hl 0 dX8_bestOrder_0 rfl ?_
  refine k_iload_n E hl 1 dX8_bestOrder_1 rfl ?_
  obtain ⟨cd_1, hg, hf⟩ := ob hf
  by_cases hcd : cd_1 = 0
  rotate_left
  · have hf := oF hcd hf
    cases hf; exact absurd h0 hcd
  replace hf := oT hcd hf
  refine k_callVv (As := [.int v1_0]) (rest := []) (ws2 := fun u => wMCo k a_th (a_in 0) (a_ou 0) (a_ru 0) (a_no 0) (a_fo 0) (a_rd 0) (a_pa 0) sv_th th_0 ++ wRules k a_ru ru_0 ++ wCourt k a_no no_0 ++ wCourt k a_fo fo_0) (c_X8_needTicks n l k a_th a_in a_ou a_ru a_no a_fo a_rd a_pa sv_th th_0 v1_0 cd_1 hg hcd) E vl_X8_275 dX8_bestOrder_2 rfl [0] 8 0 hW hA hl rfl rfl rfl rfl ⟨by decide, by decide⟩ ⟨by decide, by decide⟩ (Nat.le_of_ble_eq_true rfl) rfl (fun _ => rfl) (fun _ => rfl) (fun u H locs hp hW => ?_)
  cases hp
  have hW : WD k A s.heap (wMCo k a_th (a_in 0) (a_ou 0) (a_ru 0) (a_no 0) (a_fo 0) (a_rd 0) (a_pa 0) sv_th th_0 ++ wRules k a_ru ru_0 ++ wCourt k a_no no_0 ++ wCourt k a_fo fo_0) H locs := hW
  refine lv_iconst (v := (0 : Int32)) E.hx E.hb dX8_bestOrder_5 ic_0 ?_
  refine k_istore_n (lv' := [(2, .int (0 : Int32)), (0, .ref (a_th 0)), (1, .int v1_0)]) E rfl hl dX8_bestOrder_6 rfl (by decide) rfl (fun ls hl => ?_)
  refine lv_iconst (v := (-1 : Int32)) E.hx E.hb dX8_bestOrder_7 ic_m1 ?_
  refine k_istore_n (lv' := [(3, .int (-1 : Int32)), (2, .int (0 : Int32)), (0, .ref (a_th 0)), (1, .int v1_0)]) E rfl hl dX8_bestOrder_8 rfl (by decide) rfl (fun ls hl => ?_)
  refine lv_iconst (v := (0 : Int32)) E.hx E.hb dX8_bestOrder_9 ic_0 ?_
  refine k_istore (lv' := [(4, .int (0 : Int32)), (3, .int (-1 : Int32)), (2, .int (0 : Int32)), (0, .ref (a_th 0)), (1, .int v1_0)]) E rfl hl dX8_bestOrder_10 (by decide) rfl (fun ls hl => ?_)
  have L_12 : ∀ (N_12 : Nat) (fo_j12 : OS) (w2_j12 : Int32) (w3_j12 : Int32) (w4_j12 : Int32) (H : Heap) (locs : List Loc) (ls : Array Slot) (hW : WD k A s.heap (wMCo k a_th (a_in 0) (a_ou 0) (a_ru 0) (a_no 0) (a_fo 0) (a_rd 0) (a_pa 0) sv_th th_0 ++ wRules k a_ru ru_0 ++ wCourt k a_no no_0 ++ wCourt k a_fo fo_j12) H locs) (hl : lv_has ls 6 [(0, .ref (a_th 0)), (1, .int v1_0), (2, .int w2_j12), (3, .int w3_j12), (4, .int w4_j12)]) (hf : l_X8_bestOrder_12 n sv_th th_0 ru_0 no_0 v1_0 N_12 fo_j12 w2_j12 w3_j12 w4_j12 = some res), W p l e { frames := 7, cells := 0, slots := 0, locals := 168 } s m args below meth c H locs 0 0 Q (F0 m 12 ls []) := by
    intro N_12
    induction N_12 with
    | zero => intro fo_j12 w2_j12 w3_j12 w4_j12 H locs ls hW hl hf; exact o0 hf
    | succ N_12 ih_12 =>
      intro fo_j12 w2_j12 w3_j12 w4_j12 H locs ls hW hl hf
      have hf : s_X8_bestOrder_12 n sv_th th_0 ru_0 no_0 v1_0 (l_X8_bestOrder_12 n sv_th th_0 ru_0 no_0 v1_0 N_12) fo_j12 w2_j12 w3_j12 w4_j12 = some res := hf
      unfold s_X8_bestOrder_12 at hf
      refine k_iload E hl 4 dX8_bestOrder_12 rfl ?_
      refine lv_iconst (v := (2 : Int32)) E.hx E.hb dX8_bestOrder_14 ic_2 ?_
      refine lv_icmp_gt (tgt := 63) E.hx E.hb dX8_bestOrder_15 (by decide) (fun hc => ?_) (fun hc => ?_)
      · have hf := oT hc hf
        refine k_iload_n E hl 2 dX8_bestOrder_63 rfl ?_
        exact hret _ fo_j12 _ _ _ _ _ _ hW (Option.some.inj hf).symm rfl (by decide) (by decide) dX8_bestOrder_64
      · have hf := oF hc hf
        refine k_aload_n E hl 0 dX8_bestOrder_18 rfl ?_
        refine gf_X8_35 E hW 0 rfl rfl dX8_bestOrder_19 ?_
        refine k_aload_n E hl 0 dX8_bestOrder_22 rfl ?_
        refine gf_X8_31 E hW 0 rfl rfl dX8_bestOrder_23 ?_
        obtain ⟨fo_2, hg, hf⟩ := ob hf
        refine k_callVv (As := [.ref (a_no 0)]) (rest := []) (ws2 := fun u => wMCo k a_th (a_in 0) (a_ou 0) (a_ru 0) (a_no 0) (a_fo 0) (a_rd 0) (a_pa 0) sv_th th_0 ++ wRules k a_ru ru_0 ++ wCourt k a_no no_0 ++ wCourt k a_fo (u)) (c_X2_copyFrom n l k a_fo a_no fo_j12 no_0 fo_2 hg) E vl_X8_90 dX8_bestOrder_26 rfl (List.range' 16 12 ++ List.range' 4 12) 3 16 hW hA hl rfl (by simp only [List.map_append]; exact app2 (blk_map (wMCo k a_th (a_in 0) (a_ou 0) (a_ru 0) (a_no 0) (a_fo 0) (a_rd 0) (a_pa 0) sv_th th_0 ++ wRules k a_ru ru_0 ++ wCourt k a_no no_0) (wCourt k a_fo fo_j12) [] 16 12 (by simp only [List.append_assoc, List.nil_append, List.append_nil]) rfl rfl) (blk_map (wMCo k a_th (a_in 0) (a_ou 0) (a_ru 0) (a_no 0) (a_fo 0) (a_rd 0) (a_pa 0) sv_th th_0 ++ wRules k a_ru ru_0) (wCourt k a_no no_0) (wCourt k a_fo fo_j12) 4 12 (by simp only [List.append_assoc, List.nil_append, List.append_nil]) rfl rfl)) rfl rfl ⟨by decide, by decide⟩ ⟨by decide, by decide⟩ (Nat.le_of_ble_eq_true rfl) rfl (fun _ => rfl) (fun u => by show putW _ (_ ++ _) (_ ++ _) = _; rw [putW_app _ _ _ _ _ rfl, blk_put (wMCo k a_th (a_in 0) (a_ou 0) (a_ru 0) (a_no 0) (a_fo 0) (a_rd 0) (a_pa 0) sv_th th_0 ++ wRules k a_ru ru_0 ++ wCourt k a_no no_0) (wCourt k a_fo fo_j12) [] (wCourt k a_fo (u)) 16 12 (by simp only [List.append_assoc, List.nil_append, List.append_nil]) rfl rfl rfl, blk_put (wMCo k a_th (a_in 0) (a_ou 0) (a_ru 0) (a_no 0) (a_fo 0) (a_rd 0) (a_pa 0) sv_th th_0 ++ wRules k a_ru ru_0) (wCourt k a_no no_0) (wCourt k a_fo (u)) (wCourt k a_no no_0) 4 12 (by simp only [List.append_assoc, List.nil_append, List.append_nil]) rfl rfl rfl]; try simp only [List.append_assoc, List.nil_append, List.append_nil]) (fun u H locs hp hW => ?_)
        cases hp
        have hW : WD k A s.heap (wMCo k a_th (a_in 0) (a_ou 0) (a_ru 0) (a_no 0) (a_fo 0) (a_rd 0) (a_pa 0) sv_th th_0 ++ wRules k a_ru ru_0 ++ wCourt k a_no no_0 ++ wCourt k a_fo fo_2) H locs := hW
        refine k_aload_n E hl 0 dX8_bestOrder_29 rfl ?_
        refine gf_X8_35 E hW 0 rfl rfl dX8_bestOrder_30 ?_
        refine k_iload E hl 4 dX8_bestOrder_33 rfl ?_
        obtain ⟨fo_3, efo_3, hf⟩ := oL hf
        refine pf_X8_111 (ws2 := wMCo k a_th (a_in 0) (a_ou 0) (a_ru 0) (a_no 0) (a_fo 0) (a_rd 0) (a_pa 0) sv_th th_0 ++ wRules k a_ru ru_0 ++ wCourt k a_no no_0 ++ wCourt k a_fo fo_3) E hW 16 rfl rfl rfl (Nat.le_of_ble_eq_true rfl) dX8_bestOrder_35 (by rw [efo_3]; rfl) (fun H locs hW => ?_)
        refine k_aload_n E hl 0 dX8_bestOrder_38 rfl ?_
        refine k_iload_n E hl 1 dX8_bestOrder_39 rfl ?_
        obtain ⟨fo_4, r_5, hg, hf⟩ := ob2 hf
        refine k_callVi (As := [.int v1_0]) (rest := []) (ws2 := fun u => wMCo k a_th (a_in 0) (a_ou 0) (a_ru 0) (a_no 0) (a_fo 0) (a_rd 0) (a_pa 0) sv_th th_0 ++ wRules k a_ru ru_0 ++ wCourt k a_no no_0 ++ wCourt k a_fo (u)) (c_X8_pass n l k a_th a_in a_ou a_ru a_no a_fo a_rd a_pa sv_th th_0 ru_0 no_0 fo_3 v1_0 (fo_4, r_5) hg) E vl_X8_350 dX8_bestOrder_40 rfl (List.range' 0 28) 8 0 hW hA hl rfl (blk_map [] (wMCo k a_th (a_in 0) (a_ou 0) (a_ru 0) (a_no 0) (a_fo 0) (a_rd 0) (a_pa 0) sv_th th_0 ++ wRules k a_ru ru_0 ++ wCourt k a_no no_0 ++ wCourt k a_fo fo_3) [] 0 28 (by simp only [List.nil_append, List.append_nil]) rfl rfl) rfl rfl ⟨by decide, by decide⟩ ⟨by decide, by decide⟩ (Nat.le_of_ble_eq_true rfl) rfl (fun _ => rfl) (fun u => by rw [blk_put [] (wMCo k a_th (a_in 0) (a_ou 0) (a_ru 0) (a_no 0) (a_fo 0) (a_rd 0) (a_pa 0) sv_th th_0 ++ wRules k a_ru ru_0 ++ wCourt k a_no no_0 ++ wCourt k a_fo fo_3) [] (wMCo k a_th (a_in 0) (a_ou 0) (a_ru 0) (a_no 0) (a_fo 0) (a_rd 0) (a_pa 0) sv_th th_0 ++ wRules k a_ru ru_0 ++ wCourt k a_no no_0 ++ wCourt k a_fo (u)) 0 28 (by simp only [List.nil_append, List.append_nil]) rfl rfl rfl]; try simp only [List.nil_append, List.append_nil]) (fun r u H locs hp hW => ?_)
        cases hp
        have hW : WD k A s.heap (wMCo k a_th (a_in 0) (a_ou 0) (a_ru 0) (a_no 0) (a_fo 0) (a_rd 0) (a_pa 0) sv_th th_0 ++ wRules k a_ru ru_0 ++ wCourt k a_no no_0 ++ wCourt k a_fo fo_4) H locs := hW
        refine k_istore (lv' := [(5, .int r_5), (0, .ref (a_th 0)), (1, .int v1_0), (2, .int w2_j12), (3, .int w3_j12), (4, .int w4_j12)]) E rfl hl dX8_bestOrder_43 (by decide) rfl (fun ls hl => ?_)
        refine k_iload E hl 0 dX8_bestOrder_45 rfl ?_
        refine k_iload_n E hl 4 dX8_bestOrder_47 rfl ?_
        refine lv_icmp_le (tgt := 57) E.hx E.hb dX8_bestOrder_48 (by decide) (fun hc => ?_) (fun hc => ?_)
        · have hf := oT hc hf
          obtain ⟨v4_6, ev4_6, hf⟩ := oL hf
          refine k_iinc (lv' := [(4, .int v4_6), (5, .int r_5), (0, .ref (a_th 0)), (1, .int v1_0), (2, .int w2_j12), (3, .int w3_j12)]) E hl 5 dX8_bestOrder_57 rfl (ev4_6.trans (congrArg (fun z => w4_j12 + z) ic_1.symm)) (by decide) rfl (fun ls hl => ?_)
          refine lv_goto (tgt := 12) E.hx E.hb dX8_bestOrder_60 (by decide) ?_
          exact ih_12 fo_4 w2_j12 w3_j12 v4_6 _ _ _ hW (lv_sub hl [2, 3, 4, 5, 0] rfl) hf
        · have hf := oF hc hf
          refine k_iload E hl 0 dX8_bestOrder_51 rfl ?_
          refine k_istore_n (lv' := [(3, .int r_5), (5, .int r_5), (0, .ref (a_th 0)), (1, .int v1_0), (2, .int w2_j12), (4, .int w4_j12)]) E rfl hl dX8_bestOrder_53 rfl (by decide) rfl (fun ls hl => ?_)
          refine k_iload E hl 5 dX8_bestOrder_54 rfl ?_
          refine k_istore_n (lv' := [(2, .int w4_j12), (3, .int r_5), (5, .int r_5), (0, .ref (a_th 0)), (1, .int v1_0), (4, .int w4_j12)]) E rfl hl dX8_bestOrder_56 rfl (by decide) rfl (fun ls hl => ?_)
          obtain ⟨v4_7, ev4_7, hf⟩ := oL hf
          refine k_iinc (lv' := [(4, .int v4_7), (2, .int w4_j12), (3, .int r_5), (5, .int r_5), (0, .ref (a_th 0)), (1, .int v1_0)]) E hl 5 dX8_bestOrder_57 rfl (ev4_7.trans (congrArg (fun z => w4_j12 + z) ic_1.symm)) (by decide) rfl (fun ls hl => ?_)
          refine lv_goto (tgt := 12) E.hx E.hb dX8_bestOrder_60 (by decide) ?_
          exact ih_12 fo_4 w4_j12 r_5 v4_7 _ _ _ hW (lv_sub hl [4, 5, 1, 2, 0] rfl) hf
  exact L_12 n fo_0 (0 : Int32) (-1 : Int32) (0 : Int32) _ _ _ hW (lv_sub hl [3, 4, 2, 1, 0] rfl) hf
