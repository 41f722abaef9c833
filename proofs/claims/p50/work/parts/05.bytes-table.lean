theorem tm_80 : (Jvm.Cond.fieldLink "MemoryCourt$Bytes" (9 : Nat) "MemoryCourt$Bytes" "length" "I") ∈ lw_tbl := List.mem_of_getElem? (i := 80) (by decide +kernel)
theorem tm_79 : (Jvm.Cond.fieldLink "MemoryCourt$Bytes" (21 : Nat) "MemoryCourt$Bytes" "bytes" "[B") ∈ lw_tbl := List.mem_of_getElem? (i := 79) (by decide +kernel)
theorem tm_750 : (Jvm.Cond.methodLink "MemoryCourt$Bytes" (25 : Nat) ({ cls := "MemoryCourt$Bytes", name := "put", desc := "(I)V" } : Jvm.MethodName)) ∈ lw_tbl := List.mem_of_getElem? (i := 750) (by decide +kernel)
theorem tm_751 : (Jvm.Cond.instanceMethod ({ cls := "MemoryCourt$Bytes", name := "put", desc := "(I)V" } : Jvm.MethodName)) ∈ lw_tbl := List.mem_of_getElem? (i := 751) (by decide +kernel)
theorem tm_752 : (Jvm.Cond.selects "MemoryCourt$Bytes" ({ cls := "MemoryCourt$Bytes", name := "put", desc := "(I)V" } : Jvm.MethodName) ({ cls := "MemoryCourt$Bytes", name := "put", desc := "(I)V" } : Jvm.MethodName)) ∈ lw_tbl := List.mem_of_getElem? (i := 752) (by decide +kernel)
theorem tm_34 : (Jvm.Cond.initialized "MemoryCourt$Bytes") ∈ lw_tbl := List.mem_of_getElem? (i := 34) (by decide +kernel)
theorem tm_753 : (Jvm.Cond.code ({ cls := "MemoryCourt$Bytes", name := "put", desc := "(I)V" } : Jvm.MethodName) prog_3_method_3_code (2 : Nat) (Option.none : Option Jvm.ClassFile.FieldType)) ∈ lw_tbl := List.mem_of_getElem? (i := 753) (by decide +kernel)
theorem tm_102 : (Jvm.Cond.fieldLink "MemoryCourt$Table" (7 : Nat) "MemoryCourt$Table" "columns" "I") ∈ lw_tbl := List.mem_of_getElem? (i := 102) (by decide +kernel)
theorem tm_103 : (Jvm.Cond.fieldLink "MemoryCourt$Table" (19 : Nat) "MemoryCourt$Table" "cells" "[I") ∈ lw_tbl := List.mem_of_getElem? (i := 103) (by decide +kernel)
theorem tm_311 : (Jvm.Cond.methodLink "MemoryCourt$Table" (23 : Nat) ({ cls := "java/util/Arrays", name := "fill", desc := "([II)V" } : Jvm.MethodName)) ∈ lw_tbl := List.mem_of_getElem? (i := 311) (by decide +kernel)
theorem tm_312 : (Jvm.Cond.static ({ cls := "java/util/Arrays", name := "fill", desc := "([II)V" } : Jvm.MethodName)) ∈ lw_tbl := List.mem_of_getElem? (i := 312) (by decide +kernel)
theorem tm_43 : (Jvm.Cond.initialized "java/util/Arrays") ∈ lw_tbl := List.mem_of_getElem? (i := 43) (by decide +kernel)
theorem tm_313 : (Jvm.Cond.code ({ cls := "java/util/Arrays", name := "fill", desc := "([II)V" } : Jvm.MethodName) prog_35_method_103_code (4 : Nat) (Option.none : Option Jvm.ClassFile.FieldType)) ∈ lw_tbl := List.mem_of_getElem? (i := 313) (by decide +kernel)
theorem tm_536 : (Jvm.Cond.methodLink "MemoryCourt$Table" (29 : Nat) ({ cls := "java/lang/Math", name := "min", desc := "(II)I" } : Jvm.MethodName)) ∈ lw_tbl := List.mem_of_getElem? (i := 536) (by decide +kernel)
theorem tm_537 : (Jvm.Cond.static ({ cls := "java/lang/Math", name := "min", desc := "(II)I" } : Jvm.MethodName)) ∈ lw_tbl := List.mem_of_getElem? (i := 537) (by decide +kernel)
theorem tm_35 : (Jvm.Cond.initialized "java/lang/Math") ∈ lw_tbl := List.mem_of_getElem? (i := 35) (by decide +kernel)
theorem tm_538 : (Jvm.Cond.code ({ cls := "java/lang/Math", name := "min", desc := "(II)I" } : Jvm.MethodName) prog_24_method_69_code (2 : Nat) (Option.some Jvm.ClassFile.FieldType.int)) ∈ lw_tbl := List.mem_of_getElem? (i := 538) (by decide +kernel)
theorem tm_539 : (Jvm.Cond.methodLink "MemoryCourt$Table" (32 : Nat) ({ cls := "java/lang/System", name := "arraycopy", desc := "(Ljava/lang/Object;ILjava/lang/Object;II)V" } : Jvm.MethodName)) ∈ lw_tbl := List.mem_of_getElem? (i := 539) (by decide +kernel)
theorem tm_531 : (Jvm.Cond.native ({ cls := "java/lang/System", name := "arraycopy", desc := "(Ljava/lang/Object;ILjava/lang/Object;II)V" } : Jvm.MethodName)) ∈ lw_tbl := List.mem_of_getElem? (i := 531) (by decide +kernel)
theorem tm_530 : (Jvm.Cond.static ({ cls := "java/lang/System", name := "arraycopy", desc := "(Ljava/lang/Object;ILjava/lang/Object;II)V" } : Jvm.MethodName)) ∈ lw_tbl := List.mem_of_getElem? (i := 530) (by decide +kernel)
theorem tm_49 : (Jvm.Cond.initialized "java/lang/System") ∈ lw_tbl := List.mem_of_getElem? (i := 49) (by decide +kernel)
theorem ic_m1 : Int32.ofInt (-1) = (-1 : Int32) := by decide
theorem sp_255 : (Int16.ofInt (255)).toInt32 = (255 : Int32) := by decide
theorem ic_1 : Int32.ofInt (1) = (1 : Int32) := by decide
theorem bp_24 : (Int8.ofInt (24)).toInt32 = (24 : Int32) := by decide
theorem bp_16 : (Int8.ofInt (16)).toInt32 = (16 : Int32) := by decide
theorem bp_8 : (Int8.ofInt (8)).toInt32 = (8 : Int32) := by decide
theorem ic_0 : Int32.ofInt (0) = (0 : Int32) := by decide
theorem gf_X1_9 {p : Program} {l : Launch} {e : Env} {R : Room} {s : State} {m : MethodId} {args : Array Value} {below : List Frame} {meth : Method} {c : Code} {H : Heap} {locs : List Loc} {cells slots : Nat} {Q : State → Prop} {cc : ByteArray} {pc nL : Nat} {ls : Array Slot} {rest : List Value} {k : KT} {A : Nat → Prop} {ws : va_W} {H0 : Heap} {a : Nat} (E : E0 p s m c cc nL RX1 k A) (hW : WD k A H0 ws H locs) (q0 : Nat) {fs : List Value} (he : ws[q0]? = some (a, .inr (2, fs))) {v : Value} (hv : fs[1]? = some v) (hdg : decode cc pc = .ok (.getfield 9, 3)) (q : W p l e R s m args below meth c H locs cells slots Q (F0 m (pc + 3) ls (v :: rest))) : W p l e R s m args below meth c H locs cells slots Q (F0 m pc ls (.ref a :: rest)) := va_get (C := RX1) (T := TX1) (N := 2) (ci := 2) E.hx E.hb (Ts := wsX10) (fun w hw => E.w (inX1 w hw) (tbl_laysX1 w hw)) (fun _ h => h) E.ho E.hK hW.1 q0 he rfl 1 (by decide) (E.w tm_80 rfl) (fun _ h => h) hv hdg q
theorem gf_X1_21 {p : Program} {l : Launch} {e : Env} {R : Room} {s : State} {m : MethodId} {args : Array Value} {below : List Frame} {meth : Method} {c : Code} {H : Heap} {locs : List Loc} {cells slots : Nat} {Q : State → Prop} {cc : ByteArray} {pc nL : Nat} {ls : Array Slot} {rest : List Value} {k : KT} {A : Nat → Prop} {ws : va_W} {H0 : Heap} {a : Nat} (E : E0 p s m c cc nL RX1 k A) (hW : WD k A H0 ws H locs) (q0 : Nat) {fs : List Value} (he : ws[q0]? = some (a, .inr (2, fs))) {v : Value} (hv : fs[0]? = some v) (hdg : decode cc pc = .ok (.getfield 21, 3)) (q : W p l e R s m args below meth c H locs cells slots Q (F0 m (pc + 3) ls (v :: rest))) : W p l e R s m args below meth c H locs cells slots Q (F0 m pc ls (.ref a :: rest)) := va_get (C := RX1) (T := TX1) (N := 2) (ci := 2) E.hx E.hb (Ts := wsX10) (fun w hw => E.w (inX1 w hw) (tbl_laysX1 w hw)) (fun _ h => h) E.ho E.hK hW.1 q0 he rfl 0 (by decide) (E.w tm_79 rfl) (fun _ h => h) hv hdg q
theorem pf_X1_9 {p : Program} {l : Launch} {e : Env} {R : Room} {s : State} {m : MethodId} {args : Array Value} {below : List Frame} {meth : Method} {c : Code} {H : Heap} {locs : List Loc} {cells slots : Nat} {Q : State → Prop} {cc : ByteArray} {pc nL : Nat} {ls : Array Slot} {rest : List Value} {k : KT} {A : Nat → Prop} {ws ws2 : va_W} {H0 : Heap} {a : Nat} (E : E0 p s m c cc nL RX1 k A) (hW : WD k A H0 ws H locs) (q0 : Nat) {fs : List Value} (he : ws[q0]? = some (a, .inr (2, fs))) {v : Value} (hn : narrow (tyX1 1) v = v) (hfit : fits (tyX1 1) v = true) (hl : 1 < fs.length) (hdg : decode cc pc = .ok (.putfield 9, 3)) (hws : ws.set q0 (a, .inr (2, fs.set 1 v)) = ws2) (q : ∀ (H1 : Heap) (locs1 : List Loc), WD k A H0 ws2 H1 locs1 → W p l e R s m args below meth c H1 locs1 cells slots Q (F0 m (pc + 3) ls rest)) : W p l e R s m args below meth c H locs cells slots Q (F0 m pc ls (v :: .ref a :: rest)) := by
  subst hws
  exact va_put (C := RX1) (T := TX1) (N := 2) (ci := 2) (ty := tyX1 1) E.hx E.hb (Ts := wsX10) (fun w hw => E.w (inX1 w hw) (tbl_laysX1 w hw)) (fun _ h => h) tyX1 tyX1_ok nmX1 E.ho E.hK hW.1 hW.2.1 hW.2.2 q0 he rfl 1 (by decide) (E.w tm_80 rfl) (fun _ h => h) rfl (tyX1_ok 1 (by decide)) hn hfit hl hdg (fun H1 locs1 h1 h2 h3 => q H1 locs1 ⟨h1, h2, h3⟩)
theorem gf_X6_7 {p : Program} {l : Launch} {e : Env} {R : Room} {s : State} {m : MethodId} {args : Array Value} {below : List Frame} {meth : Method} {c : Code} {H : Heap} {locs : List Loc} {cells slots : Nat} {Q : State → Prop} {cc : ByteArray} {pc nL : Nat} {ls : Array Slot} {rest : List Value} {k : KT} {A : Nat → Prop} {ws : va_W} {H0 : Heap} {a : Nat} (E : E0 p s m c cc nL RX6 k A) (hW : WD k A H0 ws H locs) (q0 : Nat) {fs : List Value} (he : ws[q0]? = some (a, .inr (7, fs))) {v : Value} (hv : fs[0]? = some v) (hdg : decode cc pc = .ok (.getfield 7, 3)) (q : W p l e R s m args below meth c H locs cells slots Q (F0 m (pc + 3) ls (v :: rest))) : W p l e R s m args below meth c H locs cells slots Q (F0 m pc ls (.ref a :: rest)) := va_get (C := RX6) (T := TX6) (N := 2) (ci := 7) E.hx E.hb (Ts := wsX60) (fun w hw => E.w (inX6 w hw) (tbl_laysX6 w hw)) (fun _ h => h) E.ho E.hK hW.1 q0 he rfl 0 (by decide) (E.w tm_102 rfl) (fun _ h => h) hv hdg q
theorem gf_X6_19 {p : Program} {l : Launch} {e : Env} {R : Room} {s : State} {m : MethodId} {args : Array Value} {below : List Frame} {meth : Method} {c : Code} {H : Heap} {locs : List Loc} {cells slots : Nat} {Q : State → Prop} {cc : ByteArray} {pc nL : Nat} {ls : Array Slot} {rest : List Value} {k : KT} {A : Nat → Prop} {ws : va_W} {H0 : Heap} {a : Nat} (E : E0 p s m c cc nL RX6 k A) (hW : WD k A H0 ws H locs) (q0 : Nat) {fs : List Value} (he : ws[q0]? = some (a, .inr (7, fs))) {v : Value} (hv : fs[1]? = some v) (hdg : decode cc pc = .ok (.getfield 19, 3)) (q : W p l e R s m args below meth c H locs cells slots Q (F0 m (pc + 3) ls (v :: rest))) : W p l e R s m args below meth c H locs cells slots Q (F0 m pc ls (.ref a :: rest)) := va_get (C := RX6) (T := TX6) (N := 2) (ci := 7) E.hx E.hb (Ts := wsX60) (fun w hw => E.w (inX6 w hw) (tbl_laysX6 w hw)) (fun _ h => h) E.ho E.hK hW.1 q0 he rfl 1 (by decide) (E.w tm_103 rfl) (fun _ h => h) hv hdg q
theorem vl_X1_25 : VL RX1 25 RX1 yX1_put cX1_put 2 none 1 := ⟨⟨tm_750, tm_751, tm_752, tm_34, tm_753⟩, by decide +kernel⟩
theorem sl_X6_23 : SL RX6 23 yJ7_fill_53178 cJ7_fill_53178 4 none 2 := ⟨⟨tm_311, tm_312, tm_43, tm_313⟩, by decide +kernel⟩
theorem dX1_at_0 : decode cX1_at 0 = .ok (.iload_n 1, 1) := by decide +kernel
theorem dX1_at_1 : decode cX1_at 1 = .ok (.ifCond .lt 33, 3) := by decide +kernel
theorem dX1_at_4 : decode cX1_at 4 = .ok (.iload_n 1, 1) := by decide +kernel
theorem dX1_at_5 : decode cX1_at 5 = .ok (.aload_n 0, 1) := by decide +kernel
theorem dX1_at_6 : decode cX1_at 6 = .ok (.getfield 9, 3) := by decide +kernel
theorem dX1_at_9 : decode cX1_at 9 = .ok (.if_icmp .ge 25, 3) := by decide +kernel
theorem dX1_at_12 : decode cX1_at 12 = .ok (.iload_n 1, 1) := by decide +kernel
theorem dX1_at_13 : decode cX1_at 13 = .ok (.aload_n 0, 1) := by decide +kernel
theorem dX1_at_14 : decode cX1_at 14 = .ok (.getfield 21, 3) := by decide +kernel
theorem dX1_at_17 : decode cX1_at 17 = .ok (.arraylength, 1) := by decide +kernel
theorem dX1_at_18 : decode cX1_at 18 = .ok (.if_icmp .ge 16, 3) := by decide +kernel
theorem dX1_at_21 : decode cX1_at 21 = .ok (.aload_n 0, 1) := by decide +kernel
theorem dX1_at_22 : decode cX1_at 22 = .ok (.getfield 21, 3) := by decide +kernel
theorem dX1_at_25 : decode cX1_at 25 = .ok (.iload_n 1, 1) := by decide +kernel
theorem dX1_at_26 : decode cX1_at 26 = .ok (.baload, 1) := by decide +kernel
theorem dX1_at_27 : decode cX1_at 27 = .ok (.sipush 255, 3) := by decide +kernel
theorem dX1_at_30 : decode cX1_at 30 = .ok (.iand, 1) := by decide +kernel
theorem dX1_at_31 : decode cX1_at 31 = .ok (.goto 4, 3) := by decide +kernel
theorem dX1_at_34 : decode cX1_at 34 = .ok (.iconst (-1), 1) := by decide +kernel
theorem dX1_at_35 : decode cX1_at 35 = .ok (.ireturn, 1) := by decide +kernel
theorem dX1_put_0 : decode cX1_put 0 = .ok (.aload_n 0, 1) := by decide +kernel
theorem dX1_put_1 : decode cX1_put 1 = .ok (.getfield 9, 3) := by decide +kernel
theorem dX1_put_4 : decode cX1_put 4 = .ok (.ifCond .lt 36, 3) := by decide +kernel
theorem dX1_put_7 : decode cX1_put 7 = .ok (.aload_n 0, 1) := by decide +kernel
theorem dX1_put_8 : decode cX1_put 8 = .ok (.getfield 9, 3) := by decide +kernel
theorem dX1_put_11 : decode cX1_put 11 = .ok (.aload_n 0, 1) := by decide +kernel
theorem dX1_put_12 : decode cX1_put 12 = .ok (.getfield 21, 3) := by decide +kernel
theorem dX1_put_15 : decode cX1_put 15 = .ok (.arraylength, 1) := by decide +kernel
theorem dX1_put_16 : decode cX1_put 16 = .ok (.if_icmp .ge 24, 3) := by decide +kernel
theorem dX1_put_19 : decode cX1_put 19 = .ok (.aload_n 0, 1) := by decide +kernel
theorem dX1_put_20 : decode cX1_put 20 = .ok (.getfield 21, 3) := by decide +kernel
theorem dX1_put_23 : decode cX1_put 23 = .ok (.aload_n 0, 1) := by decide +kernel
theorem dX1_put_24 : decode cX1_put 24 = .ok (.getfield 9, 3) := by decide +kernel
theorem dX1_put_27 : decode cX1_put 27 = .ok (.iload_n 1, 1) := by decide +kernel
theorem dX1_put_28 : decode cX1_put 28 = .ok (.i2b, 1) := by decide +kernel
theorem dX1_put_29 : decode cX1_put 29 = .ok (.bastore, 1) := by decide +kernel
theorem dX1_put_30 : decode cX1_put 30 = .ok (.aload_n 0, 1) := by decide +kernel
theorem dX1_put_31 : decode cX1_put 31 = .ok (.dup, 1) := by decide +kernel
theorem dX1_put_32 : decode cX1_put 32 = .ok (.getfield 9, 3) := by decide +kernel
theorem dX1_put_35 : decode cX1_put 35 = .ok (.iconst 1, 1) := by decide +kernel
theorem dX1_put_36 : decode cX1_put 36 = .ok (.iadd, 1) := by decide +kernel
theorem dX1_put_37 : decode cX1_put 37 = .ok (.putfield 9, 3) := by decide +kernel
theorem dX1_put_40 : decode cX1_put 40 = .ok (.return_, 1) := by decide +kernel
theorem dX1_putWord_0 : decode cX1_putWord 0 = .ok (.aload_n 0, 1) := by decide +kernel
theorem dX1_putWord_1 : decode cX1_putWord 1 = .ok (.iload_n 1, 1) := by decide +kernel
theorem dX1_putWord_2 : decode cX1_putWord 2 = .ok (.bipush 24, 2) := by decide +kernel
theorem dX1_putWord_4 : decode cX1_putWord 4 = .ok (.ishr, 1) := by decide +kernel
theorem dX1_putWord_5 : decode cX1_putWord 5 = .ok (.invokevirtual 25, 3) := by decide +kernel
theorem dX1_putWord_8 : decode cX1_putWord 8 = .ok (.aload_n 0, 1) := by decide +kernel
theorem dX1_putWord_9 : decode cX1_putWord 9 = .ok (.iload_n 1, 1) := by decide +kernel
theorem dX1_putWord_10 : decode cX1_putWord 10 = .ok (.bipush 16, 2) := by decide +kernel
theorem dX1_putWord_12 : decode cX1_putWord 12 = .ok (.ishr, 1) := by decide +kernel
theorem dX1_putWord_13 : decode cX1_putWord 13 = .ok (.invokevirtual 25, 3) := by decide +kernel
theorem dX1_putWord_16 : decode cX1_putWord 16 = .ok (.aload_n 0, 1) := by decide +kernel
theorem dX1_putWord_17 : decode cX1_putWord 17 = .ok (.iload_n 1, 1) := by decide +kernel
theorem dX1_putWord_18 : decode cX1_putWord 18 = .ok (.bipush 8, 2) := by decide +kernel
theorem dX1_putWord_20 : decode cX1_putWord 20 = .ok (.ishr, 1) := by decide +kernel
theorem dX1_putWord_21 : decode cX1_putWord 21 = .ok (.invokevirtual 25, 3) := by decide +kernel
theorem dX1_putWord_24 : decode cX1_putWord 24 = .ok (.aload_n 0, 1) := by decide +kernel
theorem dX1_putWord_25 : decode cX1_putWord 25 = .ok (.iload_n 1, 1) := by decide +kernel
theorem dX1_putWord_26 : decode cX1_putWord 26 = .ok (.invokevirtual 25, 3) := by decide +kernel
theorem dX1_putWord_29 : decode cX1_putWord 29 = .ok (.return_, 1) := by decide +kernel
theorem dX6_get_0 : decode cX6_get 0 = .ok (.iload_n 1, 1) := by decide +kernel
theorem dX6_get_1 : decode cX6_get 1 = .ok (.aload_n 0, 1) := by decide +kernel
theorem dX6_get_2 : decode cX6_get 2 = .ok (.getfield 7, 3) := by decide +kernel
theorem dX6_get_5 : decode cX6_get 5 = .ok (.imul, 1) := by decide +kernel
theorem dX6_get_6 : decode cX6_get 6 = .ok (.iload_n 2, 1) := by decide +kernel
theorem dX6_get_7 : decode cX6_get 7 = .ok (.iadd, 1) := by decide +kernel
theorem dX6_get_8 : decode cX6_get 8 = .ok (.istore_n 3, 1) := by decide +kernel
theorem dX6_get_9 : decode cX6_get 9 = .ok (.iload_n 3, 1) := by decide +kernel
theorem dX6_get_10 : decode cX6_get 10 = .ok (.ifCond .lt 21, 3) := by decide +kernel
theorem dX6_get_13 : decode cX6_get 13 = .ok (.iload_n 3, 1) := by decide +kernel
theorem dX6_get_14 : decode cX6_get 14 = .ok (.aload_n 0, 1) := by decide +kernel
theorem dX6_get_15 : decode cX6_get 15 = .ok (.getfield 19, 3) := by decide +kernel
theorem dX6_get_18 : decode cX6_get 18 = .ok (.arraylength, 1) := by decide +kernel
theorem dX6_get_19 : decode cX6_get 19 = .ok (.if_icmp .ge 12, 3) := by decide +kernel
theorem dX6_get_22 : decode cX6_get 22 = .ok (.aload_n 0, 1) := by decide +kernel
theorem dX6_get_23 : decode cX6_get 23 = .ok (.getfield 19, 3) := by decide +kernel
theorem dX6_get_26 : decode cX6_get 26 = .ok (.iload_n 3, 1) := by decide +kernel
theorem dX6_get_27 : decode cX6_get 27 = .ok (.iaload, 1) := by decide +kernel
theorem dX6_get_28 : decode cX6_get 28 = .ok (.goto 4, 3) := by decide +kernel
theorem dX6_get_31 : decode cX6_get 31 = .ok (.iconst 0, 1) := by decide +kernel
theorem dX6_get_32 : decode cX6_get 32 = .ok (.ireturn, 1) := by decide +kernel
theorem dX6_set_0 : decode cX6_set 0 = .ok (.iload_n 1, 1) := by decide +kernel
theorem dX6_set_1 : decode cX6_set 1 = .ok (.aload_n 0, 1) := by decide +kernel
theorem dX6_set_2 : decode cX6_set 2 = .ok (.getfield 7, 3) := by decide +kernel
theorem dX6_set_5 : decode cX6_set 5 = .ok (.imul, 1) := by decide +kernel
theorem dX6_set_6 : decode cX6_set 6 = .ok (.iload_n 2, 1) := by decide +kernel
theorem dX6_set_7 : decode cX6_set 7 = .ok (.iadd, 1) := by decide +kernel
theorem dX6_set_8 : decode cX6_set 8 = .ok (.istore 4, 2) := by decide +kernel
theorem dX6_set_10 : decode cX6_set 10 = .ok (.iload 4, 2) := by decide +kernel
theorem dX6_set_12 : decode cX6_set 12 = .ok (.ifCond .lt 21, 3) := by decide +kernel
theorem dX6_set_15 : decode cX6_set 15 = .ok (.iload 4, 2) := by decide +kernel
theorem dX6_set_17 : decode cX6_set 17 = .ok (.aload_n 0, 1) := by decide +kernel
theorem dX6_set_18 : decode cX6_set 18 = .ok (.getfield 19, 3) := by decide +kernel
theorem dX6_set_21 : decode cX6_set 21 = .ok (.arraylength, 1) := by decide +kernel
theorem dX6_set_22 : decode cX6_set 22 = .ok (.if_icmp .ge 11, 3) := by decide +kernel
theorem dX6_set_25 : decode cX6_set 25 = .ok (.aload_n 0, 1) := by decide +kernel
theorem dX6_set_26 : decode cX6_set 26 = .ok (.getfield 19, 3) := by decide +kernel
theorem dX6_set_29 : decode cX6_set 29 = .ok (.iload 4, 2) := by decide +kernel
theorem dX6_set_31 : decode cX6_set 31 = .ok (.iload_n 3, 1) := by decide +kernel
theorem dX6_set_32 : decode cX6_set 32 = .ok (.iastore, 1) := by decide +kernel
theorem dX6_set_33 : decode cX6_set 33 = .ok (.return_, 1) := by decide +kernel
theorem dX6_add_0 : decode cX6_add 0 = .ok (.iload_n 1, 1) := by decide +kernel
theorem dX6_add_1 : decode cX6_add 1 = .ok (.aload_n 0, 1) := by decide +kernel
theorem dX6_add_2 : decode cX6_add 2 = .ok (.getfield 7, 3) := by decide +kernel
theorem dX6_add_5 : decode cX6_add 5 = .ok (.imul, 1) := by decide +kernel
theorem dX6_add_6 : decode cX6_add 6 = .ok (.iload_n 2, 1) := by decide +kernel
theorem dX6_add_7 : decode cX6_add 7 = .ok (.iadd, 1) := by decide +kernel
theorem dX6_add_8 : decode cX6_add 8 = .ok (.istore 4, 2) := by decide +kernel
theorem dX6_add_10 : decode cX6_add 10 = .ok (.iload 4, 2) := by decide +kernel
theorem dX6_add_12 : decode cX6_add 12 = .ok (.ifCond .lt 24, 3) := by decide +kernel
theorem dX6_add_15 : decode cX6_add 15 = .ok (.iload 4, 2) := by decide +kernel
theorem dX6_add_17 : decode cX6_add 17 = .ok (.aload_n 0, 1) := by decide +kernel
theorem dX6_add_18 : decode cX6_add 18 = .ok (.getfield 19, 3) := by decide +kernel
theorem dX6_add_21 : decode cX6_add 21 = .ok (.arraylength, 1) := by decide +kernel
theorem dX6_add_22 : decode cX6_add 22 = .ok (.if_icmp .ge 14, 3) := by decide +kernel
theorem dX6_add_25 : decode cX6_add 25 = .ok (.aload_n 0, 1) := by decide +kernel
theorem dX6_add_26 : decode cX6_add 26 = .ok (.getfield 19, 3) := by decide +kernel
theorem dX6_add_29 : decode cX6_add 29 = .ok (.iload 4, 2) := by decide +kernel
theorem dX6_add_31 : decode cX6_add 31 = .ok (.dup2, 1) := by decide +kernel
theorem dX6_add_32 : decode cX6_add 32 = .ok (.iaload, 1) := by decide +kernel
theorem dX6_add_33 : decode cX6_add 33 = .ok (.iload_n 3, 1) := by decide +kernel
theorem dX6_add_34 : decode cX6_add 34 = .ok (.iadd, 1) := by decide +kernel
theorem dX6_add_35 : decode cX6_add 35 = .ok (.iastore, 1) := by decide +kernel
theorem dX6_add_36 : decode cX6_add 36 = .ok (.return_, 1) := by decide +kernel
theorem dJ7_fill_53178_0 : decode cJ7_fill_53178 0 = .ok (.iconst 0, 1) := by decide +kernel
theorem dJ7_fill_53178_1 : decode cJ7_fill_53178 1 = .ok (.istore_n 2, 1) := by decide +kernel
theorem dJ7_fill_53178_2 : decode cJ7_fill_53178 2 = .ok (.aload_n 0, 1) := by decide +kernel
theorem dJ7_fill_53178_3 : decode cJ7_fill_53178 3 = .ok (.arraylength, 1) := by decide +kernel
theorem dJ7_fill_53178_4 : decode cJ7_fill_53178 4 = .ok (.istore_n 3, 1) := by decide +kernel
theorem dJ7_fill_53178_5 : decode cJ7_fill_53178 5 = .ok (.iload_n 2, 1) := by decide +kernel
theorem dJ7_fill_53178_6 : decode cJ7_fill_53178 6 = .ok (.iload_n 3, 1) := by decide +kernel
theorem dJ7_fill_53178_7 : decode cJ7_fill_53178 7 = .ok (.if_icmp .ge 13, 3) := by decide +kernel
theorem dJ7_fill_53178_10 : decode cJ7_fill_53178 10 = .ok (.aload_n 0, 1) := by decide +kernel
theorem dJ7_fill_53178_11 : decode cJ7_fill_53178 11 = .ok (.iload_n 2, 1) := by decide +kernel
theorem dJ7_fill_53178_12 : decode cJ7_fill_53178 12 = .ok (.iload_n 1, 1) := by decide +kernel
theorem dJ7_fill_53178_13 : decode cJ7_fill_53178 13 = .ok (.iastore, 1) := by decide +kernel
theorem dJ7_fill_53178_14 : decode cJ7_fill_53178 14 = .ok (.iinc 2 1, 3) := by decide +kernel
theorem dJ7_fill_53178_17 : decode cJ7_fill_53178 17 = .ok (.goto (-12), 3) := by decide +kernel
theorem dJ7_fill_53178_20 : decode cJ7_fill_53178 20 = .ok (.return_, 1) := by decide +kernel
theorem dJ7_fill_d0a16_0 : decode cJ7_fill_d0a16 0 = .ok (.iconst 0, 1) := by decide +kernel
theorem dJ7_fill_d0a16_1 : decode cJ7_fill_d0a16 1 = .ok (.istore_n 3, 1) := by decide +kernel
theorem dJ7_fill_d0a16_2 : decode cJ7_fill_d0a16 2 = .ok (.aload_n 0, 1) := by decide +kernel
theorem dJ7_fill_d0a16_3 : decode cJ7_fill_d0a16 3 = .ok (.arraylength, 1) := by decide +kernel
theorem dJ7_fill_d0a16_4 : decode cJ7_fill_d0a16 4 = .ok (.istore 4, 2) := by decide +kernel
theorem dJ7_fill_d0a16_6 : decode cJ7_fill_d0a16 6 = .ok (.iload_n 3, 1) := by decide +kernel
theorem dJ7_fill_d0a16_7 : decode cJ7_fill_d0a16 7 = .ok (.iload 4, 2) := by decide +kernel
theorem dJ7_fill_d0a16_9 : decode cJ7_fill_d0a16 9 = .ok (.if_icmp .ge 13, 3) := by decide +kernel
theorem dJ7_fill_d0a16_12 : decode cJ7_fill_d0a16 12 = .ok (.aload_n 0, 1) := by decide +kernel
theorem dJ7_fill_d0a16_13 : decode cJ7_fill_d0a16 13 = .ok (.iload_n 3, 1) := by decide +kernel
theorem dJ7_fill_d0a16_14 : decode cJ7_fill_d0a16 14 = .ok (.lload_n 1, 1) := by decide +kernel
theorem dJ7_fill_d0a16_15 : decode cJ7_fill_d0a16 15 = .ok (.lastore, 1) := by decide +kernel
theorem dJ7_fill_d0a16_16 : decode cJ7_fill_d0a16 16 = .ok (.iinc 3 1, 3) := by decide +kernel
theorem dJ7_fill_d0a16_19 : decode cJ7_fill_d0a16 19 = .ok (.goto (-13), 3) := by decide +kernel
theorem dJ7_fill_d0a16_22 : decode cJ7_fill_d0a16 22 = .ok (.return_, 1) := by decide +kernel
theorem dX6_clear_0 : decode cX6_clear 0 = .ok (.aload_n 0, 1) := by decide +kernel
theorem dX6_clear_1 : decode cX6_clear 1 = .ok (.getfield 19, 3) := by decide +kernel
theorem dX6_clear_4 : decode cX6_clear 4 = .ok (.iconst 0, 1) := by decide +kernel
theorem dX6_clear_5 : decode cX6_clear 5 = .ok (.invokestatic 23, 3) := by decide +kernel
theorem dX6_clear_8 : decode cX6_clear 8 = .ok (.return_, 1) := by decide +kernel
theorem dX6_copyFrom_0 : decode cX6_copyFrom 0 = .ok (.aload_n 1, 1) := by decide +kernel
theorem dX6_copyFrom_1 : decode cX6_copyFrom 1 = .ok (.getfield 19, 3) := by decide +kernel
theorem dX6_copyFrom_4 : decode cX6_copyFrom 4 = .ok (.iconst 0, 1) := by decide +kernel
theorem dX6_copyFrom_5 : decode cX6_copyFrom 5 = .ok (.aload_n 0, 1) := by decide +kernel
theorem dX6_copyFrom_6 : decode cX6_copyFrom 6 = .ok (.getfield 19, 3) := by decide +kernel
theorem dX6_copyFrom_9 : decode cX6_copyFrom 9 = .ok (.iconst 0, 1) := by decide +kernel
theorem dX6_copyFrom_10 : decode cX6_copyFrom 10 = .ok (.aload_n 0, 1) := by decide +kernel
theorem dX6_copyFrom_11 : decode cX6_copyFrom 11 = .ok (.getfield 19, 3) := by decide +kernel
theorem dX6_copyFrom_14 : decode cX6_copyFrom 14 = .ok (.arraylength, 1) := by decide +kernel
theorem dX6_copyFrom_15 : decode cX6_copyFrom 15 = .ok (.aload_n 1, 1) := by decide +kernel
theorem dX6_copyFrom_16 : decode cX6_copyFrom 16 = .ok (.getfield 19, 3) := by decide +kernel
theorem dX6_copyFrom_19 : decode cX6_copyFrom 19 = .ok (.arraylength, 1) := by decide +kernel
theorem dX6_copyFrom_20 : decode cX6_copyFrom 20 = .ok (.invokestatic 29, 3) := by decide +kernel
theorem dX6_copyFrom_23 : decode cX6_copyFrom 23 = .ok (.invokestatic 32, 3) := by decide +kernel
theorem dX6_copyFrom_26 : decode cX6_copyFrom 26 = .ok (.return_, 1) := by decide +kernel
def f_X1_at (n : Nat) (z_th : Nat) (th_0 : OS) (v1_0 : Int32) : Option (Int32) :=
  if v1_0 < 0 then (
  some (-1 : Int32)) else (
  if (th_0.1 1) ≤ v1_0 then (
  some (-1 : Int32)) else (
  if (Int32.ofNat z_th) ≤ v1_0 then (
  some (-1 : Int32)) else (
  gI z_th v1_0 (Let ((th_0.2.1 0) v1_0.toNatClampNeg) (fun x_1 : Int32 =>
  some (x_1 &&& (255 : Int32)))))))
set_option maxHeartbeats 4000000 in
set_option maxRecDepth 100000 in
theorem c_X1_at (n : Nat) (l : Launch) (k : KT) (a_th : Nat → Nat) (z_th : Nat) (th_0 : OS) (v1_0 : Int32) (res : (Int32)) (hf : f_X1_at n z_th th_0 v1_0 = some res) : CG l k yX1_at cX1_at 2 (some .int) 0 0 0 0 [.ref (a_th 0), .int v1_0] (wBytes k a_th z_th th_0) (Qi k (fun u : Unit => wBytes k a_th z_th th_0) (fun (r : Int32) (u : Unit) => res = r)) := by
  refine CG.ofI (by decide) (Nat.le_of_ble_eq_true rfl) (fun p e s m args below meth c A Q E hnm hW hA hret ls hl => ?_)
  have hl : lv_has ls 2 [(0, .ref (a_th 0)), (1, .int v1_0)] := hl
  unfold f_X1_at at hf
  refine k_iload_n E hl 1 dX1_at_0 rfl ?_
  refine lv_if_lt (tgt := 34) E.hx E.hb dX1_at_1 (by decide) (fun hc => ?_) (fun hc => ?_)
  · have hf := oT hc hf
    refine lv_iconst (v := (-1 : Int32)) E.hx E.hb dX1_at_34 ic_m1 ?_
    exact hret _ () _ _ _ _ _ _ hW (Option.some.inj hf).symm rfl (by decide) (by decide) dX1_at_35
  · have hf := oF hc hf
    refine k_iload_n E hl 1 dX1_at_4 rfl ?_
    refine k_aload_n E hl 0 dX1_at_5 rfl ?_
    refine gf_X1_9 E hW 0 rfl rfl dX1_at_6 ?_
    refine lv_icmp_ge (tgt := 34) E.hx E.hb dX1_at_9 (by decide) (fun hc => ?_) (fun hc => ?_)
    · have hf := oT hc hf
      refine lv_iconst (v := (-1 : Int32)) E.hx E.hb dX1_at_34 ic_m1 ?_
      exact hret _ () _ _ _ _ _ _ hW (Option.some.inj hf).symm rfl (by decide) (by decide) dX1_at_35
    · have hf := oF hc hf
      refine k_iload_n E hl 1 dX1_at_12 rfl ?_
      refine k_aload_n E hl 0 dX1_at_13 rfl ?_
      refine gf_X1_21 E hW 0 rfl rfl dX1_at_14 ?_
      refine k_alen (v := (Int32.ofNat z_th)) E hW 1 2 rfl rfl rfl dX1_at_17 ?_
      refine lv_icmp_ge (tgt := 34) E.hx E.hb dX1_at_18 (by decide) (fun hc => ?_) (fun hc => ?_)
      · have hf := oT hc hf
        refine lv_iconst (v := (-1 : Int32)) E.hx E.hb dX1_at_34 ic_m1 ?_
        exact hret _ () _ _ _ _ _ _ hW (Option.some.inj hf).symm rfl (by decide) (by decide) dX1_at_35
      · have hf := oF hc hf
        refine k_aload_n E hl 0 dX1_at_21 rfl ?_
        refine gf_X1_21 E hW 0 rfl rfl dX1_at_22 ?_
        refine k_iload_n E hl 1 dX1_at_25 rfl ?_
        obtain ⟨hin, hf⟩ := oI hf
        obtain ⟨x_1, ex_1, hf⟩ := oL hf
        refine k_bald E hW 1 rfl hin dX1_at_26 ?_
        refine k_topi ex_1 ?_
        refine lv_sipush (v := (255 : Int32)) E.hx E.hb dX1_at_27 sp_255 ?_
        refine lv_iand E.hx E.hb dX1_at_30 ?_
        refine lv_goto (tgt := 35) E.hx E.hb dX1_at_31 (by decide) ?_
        exact hret _ () _ _ _ _ _ _ hW (Option.some.inj hf).symm rfl (by decide) (by decide) dX1_at_35
def f_X1_put (n : Nat) (z_th : Nat) (th_0 : OS) (v1_0 : Int32) : Option (OS) :=
  if (th_0.1 1) < 0 then (
  some th_0) else (
  if (Int32.ofNat z_th) ≤ (th_0.1 1) then (
  some th_0) else (
  gI z_th (th_0.1 1) (Let (sA th_0 0 (upd (th_0.2.1 0) (th_0.1 1).toNatClampNeg (vp_nar .byte ((v1_0).toInt8.toInt32)))) (fun th_1 : OS =>
  Let (sI th_1 1 ((th_1.1 1) + (1 : Int32))) (fun th_2 : OS =>
  some th_2)))))
set_option maxHeartbeats 4000000 in
set_option maxRecDepth 100000 in
theorem c_X1_put (n : Nat) (l : Launch) (k : KT) (a_th : Nat → Nat) (z_th : Nat) (th_0 : OS) (v1_0 : Int32) (res : (OS)) (hf : f_X1_put n z_th th_0 v1_0 = some res) : CG l k yX1_put cX1_put 2 none 0 0 0 0 [.ref (a_th 0), .int v1_0] (wBytes k a_th z_th th_0) (Qv k (fun u : OS => wBytes k a_th z_th u) (fun u : OS => res = u)) := by
  refine CG.ofV (by decide) (Nat.le_of_ble_eq_true rfl) (fun p e s m args below meth c A Q E hnm hW hA hret ls hl => ?_)
  have hl : lv_has ls 2 [(0, .ref (a_th 0)), (1, .int v1_0)] := hl
  unfold f_X1_put at hf
  refine k_aload_n E hl 0 dX1_put_0 rfl ?_
  refine gf_X1_9 E hW 0 rfl rfl dX1_put_1 ?_
  refine lv_if_lt (tgt := 40) E.hx E.hb dX1_put_4 (by decide) (fun hc => ?_) (fun hc => ?_)
  · have hf := oT hc hf
    exact hret th_0 _ _ _ _ _ _ hW (Option.some.inj hf).symm (by decide) (by decide) dX1_put_40
  · have hf := oF hc hf
    refine k_aload_n E hl 0 dX1_put_7 rfl ?_
    refine gf_X1_9 E hW 0 rfl rfl dX1_put_8 ?_
    refine k_aload_n E hl 0 dX1_put_11 rfl ?_
    refine gf_X1_21 E hW 0 rfl rfl dX1_put_12 ?_
    refine k_alen (v := (Int32.ofNat z_th)) E hW 1 2 rfl rfl rfl dX1_put_15 ?_
    refine lv_icmp_ge (tgt := 40) E.hx E.hb dX1_put_16 (by decide) (fun hc => ?_) (fun hc => ?_)
    · have hf := oT hc hf
      exact hret th_0 _ _ _ _ _ _ hW (Option.some.inj hf).symm (by decide) (by decide) dX1_put_40
    · have hf := oF hc hf
      refine k_aload_n E hl 0 dX1_put_19 rfl ?_
      refine gf_X1_21 E hW 0 rfl rfl dX1_put_20 ?_
      refine k_aload_n E hl 0 dX1_put_23 rfl ?_
      refine gf_X1_9 E hW 0 rfl rfl dX1_put_24 ?_
      refine k_iload_n E hl 1 dX1_put_27 rfl ?_
      refine lv_i2b (v := (v1_0).toInt8.toInt32) E.hx E.hb dX1_put_28 rfl ?_
      obtain ⟨hin, hf⟩ := oI hf
      obtain ⟨th_1, eth_1, hf⟩ := oL hf
      refine k_bast (ws2 := wBytes k a_th z_th th_1) E hW 1 rfl hin dX1_put_29 (by rw [eth_1]; rfl) (fun H locs hW => ?_)
      refine k_aload_n E hl 0 dX1_put_30 rfl ?_
      refine lv_dup E.hx E.hb dX1_put_31 rfl ?_
      refine gf_X1_9 E hW 0 rfl rfl dX1_put_32 ?_
      refine lv_iconst (v := (1 : Int32)) E.hx E.hb dX1_put_35 ic_1 ?_
      refine lv_iadd E.hx E.hb dX1_put_36 ?_
      obtain ⟨th_2, eth_2, hf⟩ := oL hf
      refine pf_X1_9 (ws2 := wBytes k a_th z_th th_2) E hW 0 rfl rfl rfl (Nat.le_of_ble_eq_true rfl) dX1_put_37 (by rw [eth_2]; rfl) (fun H locs hW => ?_)
      exact hret th_2 _ _ _ _ _ _ hW (Option.some.inj hf).symm (by decide) (by decide) dX1_put_40
def f_X1_putWord (n : Nat) (z_th : Nat) (th_0 : OS) (v1_0 : Int32) : Option (OS) :=
  bnd (f_X1_put n z_th th_0 (v1_0 >>> ((24 : Int32) &&& 31))) (fun (th_1 : OS) =>
  bnd (f_X1_put n z_th th_1 (v1_0 >>> ((16 : Int32) &&& 31))) (fun (th_2 : OS) =>
  bnd (f_X1_put n z_th th_2 (v1_0 >>> ((8 : Int32) &&& 31))) (fun (th_3 : OS) =>
  bnd (f_X1_put n z_th th_3 v1_0) (fun (th_4 : OS) =>
  some th_4))))
set_option maxHeartbeats 4000000 in
set_option maxRecDepth 100000 in
theorem c_X1_putWord (n : Nat) (l : Launch) (k : KT) (a_th : Nat → Nat) (z_th : Nat) (th_0 : OS) (v1_0 : Int32) (res : (OS)) (hf : f_X1_putWord n z_th th_0 v1_0 = some res) : CG l k yX1_putWord cX1_putWord 2 none 1 0 0 21 [.ref (a_th 0), .int v1_0] (wBytes k a_th z_th th_0) (Qv k (fun u : OS => wBytes k a_th z_th u) (fun u : OS => res = u)) := by
  refine CG.ofV (by decide) (Nat.le_of_ble_eq_true rfl) (fun p e s m args below meth c A Q E hnm hW hA hret ls hl => ?_)
  have hl : lv_has ls 2 [(0, .ref (a_th 0)), (1, .int v1_0)] := hl
  unfold f_X1_putWord at hf
  refine k_aload_n E hl 0 dX1_putWord_0 rfl ?_
  refine k_iload_n E hl 1 dX1_putWord_1 rfl ?_
  refine lv_bipush (v := (24 : Int32)) E.hx E.hb dX1_putWord_2 bp_24 ?_
  refine lv_ishr E.hx E.hb dX1_putWord_4 ?_
  obtain ⟨th_1, hg, hf⟩ := ob hf
  refine k_callVv (As := [.int (v1_0 >>> ((24 : Int32) &&& 31))]) (rest := []) (ws2 := fun u => wBytes k a_th z_th (u)) (c_X1_put n l k a_th z_th th_0 (v1_0 >>> ((24 : Int32) &&& 31)) th_1 hg) E vl_X1_25 dX1_putWord_5 rfl [0, 1] 2 0 hW hA hl rfl rfl rfl rfl ⟨by decide, by decide⟩ ⟨by decide, by decide⟩ (Nat.le_of_ble_eq_true rfl) rfl (fun _ => rfl) (fun _ => rfl) (fun u H locs hp hW => ?_)
  cases hp
  have hW : WD k A s.heap (wBytes k a_th z_th th_1) H locs := hW
  refine k_aload_n E hl 0 dX1_putWord_8 rfl ?_
  refine k_iload_n E hl 1 dX1_putWord_9 rfl ?_
  refine lv_bipush (v := (16 : Int32)) E.hx E.hb dX1_putWord_10 bp_16 ?_
  refine lv_ishr E.hx E.hb dX1_putWord_12 ?_
  obtain ⟨th_2, hg, hf⟩ := ob hf
  refine k_callVv (As := [.int (v1_0 >>> ((16 : Int32) &&& 31))]) (rest := []) (ws2 := fun u => wBytes k a_th z_th (u)) (c_X1_put n l k a_th z_th th_1 (v1_0 >>> ((16 : Int32) &&& 31)) th_2 hg) E vl_X1_25 dX1_putWord_13 rfl [0, 1] 2 0 hW hA hl rfl rfl rfl rfl ⟨by decide, by decide⟩ ⟨by decide, by decide⟩ (Nat.le_of_ble_eq_true rfl) rfl (fun _ => rfl) (fun _ => rfl) (fun u H locs hp hW => ?_)
  cases hp
  have hW : WD k A s.heap (wBytes k a_th z_th th_2) H locs := hW
  refine k_aload_n E hl 0 dX1_putWord_16 rfl ?_
  refine k_iload_n E hl 1 dX1_putWord_17 rfl ?_
  refine lv_bipush (v := (8 : Int32)) E.hx E.hb dX1_putWord_18 bp_8 ?_
  refine lv_ishr E.hx E.hb dX1_putWord_20 ?_
  obtain ⟨th_3, hg, hf⟩ := ob hf
  refine k_callVv (As := [.int (v1_0 >>> ((8 : Int32) &&& 31))]) (rest := []) (ws2 := fun u => wBytes k a_th z_th (u)) (c_X1_put n l k a_th z_th th_2 (v1_0 >>> ((8 : Int32) &&& 31)) th_3 hg) E vl_X1_25 dX1_putWord_21 rfl [0, 1] 2 0 hW hA hl rfl rfl rfl rfl ⟨by decide, by decide⟩ ⟨by decide, by decide⟩ (Nat.le_of_ble_eq_true rfl) rfl (fun _ => rfl) (fun _ => rfl) (fun u H locs hp hW => ?_)
  cases hp
  have hW : WD k A s.heap (wBytes k a_th z_th th_3) H locs := hW
  refine k_aload_n E hl 0 dX1_putWord_24 rfl ?_
  refine k_iload_n E hl 1 dX1_putWord_25 rfl ?_
  obtain ⟨th_4, hg, hf⟩ := ob hf
  refine k_callVv (As := [.int v1_0]) (rest := []) (ws2 := fun u => wBytes k a_th z_th (u)) (c_X1_put n l k a_th z_th th_3 v1_0 th_4 hg) E vl_X1_25 dX1_putWord_26 rfl [0, 1] 2 0 hW hA hl rfl rfl rfl rfl ⟨by decide, by decide⟩ ⟨by decide, by decide⟩ (Nat.le_of_ble_eq_true rfl) rfl (fun _ => rfl) (fun _ => rfl) (fun u H locs hp hW => ?_)
  cases hp
  have hW : WD k A s.heap (wBytes k a_th z_th th_4) H locs := hW
  exact hret th_4 _ _ _ _ _ _ hW (Option.some.inj hf).symm (by decide) (by decide) dX1_putWord_29
def f_X6_get (n : Nat) (cols_th : Int32) (z_th : Nat) (th_0 : Nat → Int32) (v1_0 : Int32) (v2_0 : Int32) : Option (Int32) :=
  Let ((v1_0 * cols_th) + v2_0) (fun v3_1 : Int32 =>
  if v3_1 < 0 then (
  some (0 : Int32)) else (
  if (Int32.ofNat z_th) ≤ v3_1 then (
  some (0 : Int32)) else (
  gI z_th v3_1 (Let (th_0 v3_1.toNatClampNeg) (fun x_2 : Int32 =>
  some x_2)))))
set_option maxHeartbeats 4000000 in
set_option maxRecDepth 100000 in
theorem c_X6_get (n : Nat) (l : Launch) (k : KT) (a_th : Nat → Nat) (cols_th : Int32) (z_th : Nat) (th_0 : Nat → Int32) (v1_0 : Int32) (v2_0 : Int32) (res : (Int32)) (hf : f_X6_get n cols_th z_th th_0 v1_0 v2_0 = some res) : CG l k yX6_get cX6_get 4 (some .int) 0 0 0 0 [.ref (a_th 0), .int v1_0, .int v2_0] (wTable k a_th cols_th z_th th_0) (Qi k (fun u : Unit => wTable k a_th cols_th z_th th_0) (fun (r : Int32) (u : Unit) => res = r)) := by
  refine CG.ofI (by decide) (Nat.le_of_ble_eq_true rfl) (fun p e s m args below meth c A Q E hnm hW hA hret ls hl => ?_)
  have hl : lv_has ls 4 [(0, .ref (a_th 0)), (1, .int v1_0), (2, .int v2_0)] := hl
  unfold f_X6_get at hf
  refine k_iload_n E hl 1 dX6_get_0 rfl ?_
  refine k_aload_n E hl 0 dX6_get_1 rfl ?_
  refine gf_X6_7 E hW 0 rfl rfl dX6_get_2 ?_
  refine lv_imul E.hx E.hb dX6_get_5 ?_
  refine k_iload_n E hl 2 dX6_get_6 rfl ?_
  refine lv_iadd E.hx E.hb dX6_get_7 ?_
  obtain ⟨v3_1, ev3_1, hf⟩ := oL hf
  refine k_istore_n (lv' := [(3, .int v3_1), (0, .ref (a_th 0)), (1, .int v1_0), (2, .int v2_0)]) E ev3_1 hl dX6_get_8 rfl (by decide) rfl (fun ls hl => ?_)
  refine k_iload_n E hl 0 dX6_get_9 rfl ?_
  refine lv_if_lt (tgt := 31) E.hx E.hb dX6_get_10 (by decide) (fun hc => ?_) (fun hc => ?_)
  · have hf := oT hc hf
    refine lv_iconst (v := (0 : Int32)) E.hx E.hb dX6_get_31 ic_0 ?_
    exact hret _ () _ _ _ _ _ _ hW (Option.some.inj hf).symm rfl (by decide) (by decide) dX6_get_32
  · have hf := oF hc hf
    refine k_iload_n E hl 0 dX6_get_13 rfl ?_
    refine k_aload_n E hl 1 dX6_get_14 rfl ?_
    refine gf_X6_19 E hW 0 rfl rfl dX6_get_15 ?_
    refine k_alen (v := (Int32.ofNat z_th)) E hW 1 0 rfl rfl rfl dX6_get_18 ?_
    refine lv_icmp_ge (tgt := 31) E.hx E.hb dX6_get_19 (by decide) (fun hc => ?_) (fun hc => ?_)
    · have hf := oT hc hf
      refine lv_iconst (v := (0 : Int32)) E.hx E.hb dX6_get_31 ic_0 ?_
      exact hret _ () _ _ _ _ _ _ hW (Option.some.inj hf).symm rfl (by decide) (by decide) dX6_get_32
    · have hf := oF hc hf
      refine k_aload_n E hl 1 dX6_get_22 rfl ?_
      refine gf_X6_19 E hW 0 rfl rfl dX6_get_23 ?_
      refine k_iload_n E hl 0 dX6_get_26 rfl ?_
      obtain ⟨hin, hf⟩ := oI hf
      obtain ⟨x_2, ex_2, hf⟩ := oL hf
      refine k_iald E hW 1 rfl hin dX6_get_27 ?_
      refine k_topi ex_2 ?_
      refine lv_goto (tgt := 32) E.hx E.hb dX6_get_28 (by decide) ?_
      exact hret _ () _ _ _ _ _ _ hW (Option.some.inj hf).symm rfl (by decide) (by decide) dX6_get_32
def f_X6_set (n : Nat) (cols_th : Int32) (z_th : Nat) (th_0 : Nat → Int32) (v1_0 : Int32) (v2_0 : Int32) (v3_0 : Int32) : Option ((Nat → Int32)) :=
  Let ((v1_0 * cols_th) + v2_0) (fun v4_1 : Int32 =>
  if v4_1 < 0 then (
  some th_0) else (
  if (Int32.ofNat z_th) ≤ v4_1 then (
  some th_0) else (
  gI z_th v4_1 (Let (upd th_0 v4_1.toNatClampNeg v3_0) (fun th_2 : Nat → Int32 =>
  some th_2)))))
set_option maxHeartbeats 4000000 in
set_option maxRecDepth 100000 in
theorem c_X6_set (n : Nat) (l : Launch) (k : KT) (a_th : Nat → Nat) (cols_th : Int32) (z_th : Nat) (th_0 : Nat → Int32) (v1_0 : Int32) (v2_0 : Int32) (v3_0 : Int32) (res : ((Nat → Int32))) (hf : f_X6_set n cols_th z_th th_0 v1_0 v2_0 v3_0 = some res) : CG l k yX6_set cX6_set 5 none 0 0 0 0 [.ref (a_th 0), .int v1_0, .int v2_0, .int v3_0] (wTable k a_th cols_th z_th th_0) (Qv k (fun u : Nat → Int32 => wTable k a_th cols_th z_th u) (fun u : Nat → Int32 => res = u)) := by
  refine CG.ofV (by decide) (Nat.le_of_ble_eq_true rfl) (fun p e s m args below meth c A Q E hnm hW hA hret ls hl => ?_)
  have hl : lv_has ls 5 [(0, .ref (a_th 0)), (1, .int v1_0), (2, .int v2_0), (3, .int v3_0)] := hl
  unfold f_X6_set at hf
  refine k_iload_n E hl 1 dX6_set_0 rfl ?_
  refine k_aload_n E hl 0 dX6_set_1 rfl ?_
  refine gf_X6_7 E hW 0 rfl rfl dX6_set_2 ?_
  refine lv_imul E.hx E.hb dX6_set_5 ?_
  refine k_iload_n E hl 2 dX6_set_6 rfl ?_
  refine lv_iadd E.hx E.hb dX6_set_7 ?_
  obtain ⟨v4_1, ev4_1, hf⟩ := oL hf
  refine k_istore (lv' := [(4, .int v4_1), (0, .ref (a_th 0)), (1, .int v1_0), (2, .int v2_0), (3, .int v3_0)]) E ev4_1 hl dX6_set_8 (by decide) rfl (fun ls hl => ?_)
  refine k_iload E hl 0 dX6_set_10 rfl ?_
  refine lv_if_lt (tgt := 33) E.hx E.hb dX6_set_12 (by decide) (fun hc => ?_) (fun hc => ?_)
  · have hf := oT hc hf
    exact hret th_0 _ _ _ _ _ _ hW (Option.some.inj hf).symm (by decide) (by decide) dX6_set_33
  · have hf := oF hc hf
    refine k_iload E hl 0 dX6_set_15 rfl ?_
    refine k_aload_n E hl 1 dX6_set_17 rfl ?_
    refine gf_X6_19 E hW 0 rfl rfl dX6_set_18 ?_
    refine k_alen (v := (Int32.ofNat z_th)) E hW 1 0 rfl rfl rfl dX6_set_21 ?_
    refine lv_icmp_ge (tgt := 33) E.hx E.hb dX6_set_22 (by decide) (fun hc => ?_) (fun hc => ?_)
    · have hf := oT hc hf
      exact hret th_0 _ _ _ _ _ _ hW (Option.some.inj hf).symm (by decide) (by decide) dX6_set_33
    · have hf := oF hc hf
      refine k_aload_n E hl 1 dX6_set_25 rfl ?_
      refine gf_X6_19 E hW 0 rfl rfl dX6_set_26 ?_
      refine k_iload E hl 0 dX6_set_29 rfl ?_
      refine k_iload_n E hl 4 dX6_set_31 rfl ?_
      obtain ⟨hin, hf⟩ := oI hf
      obtain ⟨th_2, eth_2, hf⟩ := oL hf
      refine k_iast (ws2 := wTable k a_th cols_th z_th th_2) E hW 1 rfl hin dX6_set_32 (by rw [eth_2]; rfl) (fun H locs hW => ?_)
      exact hret th_2 _ _ _ _ _ _ hW (Option.some.inj hf).symm (by decide) (by decide) dX6_set_33
def f_X6_add (n : Nat) (cols_th : Int32) (z_th : Nat) (th_0 : Nat → Int32) (v1_0 : Int32) (v2_0 : Int32) (v3_0 : Int32) : Option ((Nat → Int32)) :=
  Let ((v1_0 * cols_th) + v2_0) (fun v4_1 : Int32 =>
  if v4_1 < 0 then (
  some th_0) else (
  if (Int32.ofNat z_th) ≤ v4_1 then (
  some th_0) else (
  gI z_th v4_1 (Let (th_0 v4_1.toNatClampNeg) (fun x_2 : Int32 =>
  gI z_th v4_1 (Let (upd th_0 v4_1.toNatClampNeg (x_2 + v3_0)) (fun th_3 : Nat → Int32 =>
  some th_3)))))))
set_option maxHeartbeats 4000000 in
set_option maxRecDepth 100000 in
theorem c_X6_add (n : Nat) (l : Launch) (k : KT) (a_th : Nat → Nat) (cols_th : Int32) (z_th : Nat) (th_0 : Nat → Int32) (v1_0 : Int32) (v2_0 : Int32) (v3_0 : Int32) (res : ((Nat → Int32))) (hf : f_X6_add n cols_th z_th th_0 v1_0 v2_0 v3_0 = some res) : CG l k yX6_add cX6_add 5 none 0 0 0 0 [.ref (a_th 0), .int v1_0, .int v2_0, .int v3_0] (wTable k a_th cols_th z_th th_0) (Qv k (fun u : Nat → Int32 => wTable k a_th cols_th z_th u) (fun u : Nat → Int32 => res = u)) := by
  refine CG.ofV (by decide) (Nat.le_of_ble_eq_true rfl) (fun p e s m args below meth c A Q E hnm hW hA hret ls hl => ?_)
  have hl : lv_has ls 5 [(0, .ref (a_th 0)), (1, .int v1_0), (2, .int v2_0), (3, .int v3_0)] := hl
  unfold f_X6_add at hf
  refine k_iload_n E hl 1 dX6_add_0 rfl ?_
  refine k_aload_n E hl 0 dX6_add_1 rfl ?_
  refine gf_X6_7 E hW 0 rfl rfl dX6_add_2 ?_
  refine lv_imul E.hx E.hb dX6_add_5 ?_
  refine k_iload_n E hl 2 dX6_add_6 rfl ?_
  refine lv_iadd E.hx E.hb dX6_add_7 ?_
  obtain ⟨v4_1, ev4_1, hf⟩ := oL hf
  refine k_istore (lv' := [(4, .int v4_1), (0, .ref (a_th 0)), (1, .int v1_0), (2, .int v2_0), (3, .int v3_0)]) E ev4_1 hl dX6_add_8 (by decide) rfl (fun ls hl => ?_)
  refine k_iload E hl 0 dX6_add_10 rfl ?_
  refine lv_if_lt (tgt := 36) E.hx E.hb dX6_add_12 (by decide) (fun hc => ?_) (fun hc => ?_)
  · have hf := oT hc hf
    exact hret th_0 _ _ _ _ _ _ hW (Option.some.inj hf).symm (by decide) (by decide) dX6_add_36
  · have hf := oF hc hf
    refine k_iload E hl 0 dX6_add_15 rfl ?_
    refine k_aload_n E hl 1 dX6_add_17 rfl ?_
    refine gf_X6_19 E hW 0 rfl rfl dX6_add_18 ?_
    refine k_alen (v := (Int32.ofNat z_th)) E hW 1 0 rfl rfl rfl dX6_add_21 ?_
    refine lv_icmp_ge (tgt := 36) E.hx E.hb dX6_add_22 (by decide) (fun hc => ?_) (fun hc => ?_)
    · have hf := oT hc hf
      exact hret th_0 _ _ _ _ _ _ hW (Option.some.inj hf).symm (by decide) (by decide) dX6_add_36
    · have hf := oF hc hf
      refine k_aload_n E hl 1 dX6_add_25 rfl ?_
      refine gf_X6_19 E hW 0 rfl rfl dX6_add_26 ?_
      refine k_iload E hl 0 dX6_add_29 rfl ?_
      refine lv_dup2_11 E.hx E.hb dX6_add_31 rfl rfl ?_
      obtain ⟨hin, hf⟩ := oI hf
      obtain ⟨x_2, ex_2, hf⟩ := oL hf
      refine k_iald E hW 1 rfl hin dX6_add_32 ?_
      refine k_topi ex_2 ?_
      refine k_iload_n E hl 4 dX6_add_33 rfl ?_
      refine lv_iadd E.hx E.hb dX6_add_34 ?_
      obtain ⟨hin, hf⟩ := oI hf
      obtain ⟨th_3, eth_3, hf⟩ := oL hf
      refine k_iast (ws2 := wTable k a_th cols_th z_th th_3) E hW 1 rfl hin dX6_add_35 (by rw [eth_3]; rfl) (fun H locs hW => ?_)
      exact hret th_3 _ _ _ _ _ _ hW (Option.some.inj hf).symm (by decide) (by decide) dX6_add_36
def s_J7_fill_53178_5 (n : Nat) (z_p0 : Nat) (w1_j5 : Int32) (w3_j5 : Int32) (rc_5 : (Nat → Int32) → (Int32) → Option ((Nat → Int32))) (p0_j5 : Nat → Int32) (w2_j5 : Int32) : Option ((Nat → Int32)) :=
  if w3_j5 ≤ w2_j5 then (
  some p0_j5) else (
  gI z_p0 w2_j5 (Let (upd p0_j5 w2_j5.toNatClampNeg w1_j5) (fun p0_2 : Nat → Int32 =>
  Let (w2_j5 + (1 : Int32)) (fun v2_3 : Int32 =>
  rc_5 p0_2 v2_3))))
def l_J7_fill_53178_5 (n : Nat) (z_p0 : Nat) (w1_j5 : Int32) (w3_j5 : Int32) : Nat → (Nat → Int32) → (Int32) → Option ((Nat → Int32))
  | 0 => fun _ _ => none
  | N + 1 => s_J7_fill_53178_5 n z_p0 w1_j5 w3_j5 (l_J7_fill_53178_5 n z_p0 w1_j5 w3_j5 N)
def f_J7_fill_53178 (n : Nat) (z_p0 : Nat) (p0_0 : Nat → Int32) (v1_0 : Int32) : Option ((Nat → Int32)) :=
  Let (Int32.ofNat z_p0) (fun v3_1 : Int32 =>
  l_J7_fill_53178_5 n z_p0 v1_0 v3_1 n p0_0 (0 : Int32))
set_option maxHeartbeats 4000000 in
set_option maxRecDepth 100000 in
theorem c_J7_fill_53178 (n : Nat) (l : Launch) (k : KT) (a_p0 : Nat → Nat) (z_p0 : Nat) (p0_0 : Nat → Int32) (v1_0 : Int32) (res : ((Nat → Int32))) (hf : f_J7_fill_53178 n z_p0 p0_0 v1_0 = some res) : CG l k yJ7_fill_53178 cJ7_fill_53178 4 none 0 0 0 0 [.ref (a_p0 0), .int v1_0] (wIArr k a_p0 z_p0 p0_0) (Qv k (fun u : Nat → Int32 => wIArr k a_p0 z_p0 u) (fun u : Nat → Int32 => res = u)) := by
  refine CG.ofV (by decide) (Nat.le_of_ble_eq_true rfl) (fun p e s m args below meth c A Q E hnm hW hA hret ls hl => ?_)
  have hl : lv_has ls 4 [(0, .ref (a_p0 0)), (1, .int v1_0)] := hl
  unfold f_J7_fill_53178 at hf
  refine lv_iconst (v := (0 : Int32)) E.hx E.hb dJ7_fill_53178_0 ic_0 ?_
  refine k_istore_n (lv' := [(2, .int (0 : Int32)), (0, .ref (a_p0 0)), (1, .int v1_0)]) E rfl hl dJ7_fill_53178_1 rfl (by decide) rfl (fun ls hl => ?_)
  refine k_aload_n E hl 1 dJ7_fill_53178_2 rfl ?_
  refine k_alen (v := (Int32.ofNat z_p0)) E hW 0 0 rfl rfl rfl dJ7_fill_53178_3 ?_
  obtain ⟨v3_1, ev3_1, hf⟩ := oL hf
  refine k_istore_n (lv' := [(3, .int v3_1), (2, .int (0 : Int32)), (0, .ref (a_p0 0)), (1, .int v1_0)]) E ev3_1 hl dJ7_fill_53178_4 rfl (by decide) rfl (fun ls hl => ?_)
  have L_5 : ∀ (N_5 : Nat) (p0_j5 : Nat → Int32) (w2_j5 : Int32) (H : Heap) (locs : List Loc) (ls : Array Slot) (hW : WD k A s.heap (wIArr k a_p0 z_p0 p0_j5) H locs) (hl : lv_has ls 4 [(0, .ref (a_p0 0)), (1, .int v1_0), (2, .int w2_j5), (3, .int v3_1)]) (hf : l_J7_fill_53178_5 n z_p0 v1_0 v3_1 N_5 p0_j5 w2_j5 = some res), W p l e { frames := 0, cells := 0, slots := 0, locals := 0 } s m args below meth c H locs 0 0 Q (F0 m 5 ls []) := by
    intro N_5
    induction N_5 with
    | zero => intro p0_j5 w2_j5 H locs ls hW hl hf; exact o0 hf
    | succ N_5 ih_5 =>
      intro p0_j5 w2_j5 H locs ls hW hl hf
      have hf : s_J7_fill_53178_5 n z_p0 v1_0 v3_1 (l_J7_fill_53178_5 n z_p0 v1_0 v3_1 N_5) p0_j5 w2_j5 = some res := hf
      unfold s_J7_fill_53178_5 at hf
      refine k_iload_n E hl 2 dJ7_fill_53178_5 rfl ?_
      refine k_iload_n E hl 3 dJ7_fill_53178_6 rfl ?_
      refine lv_icmp_ge (tgt := 20) E.hx E.hb dJ7_fill_53178_7 (by decide) (fun hc => ?_) (fun hc => ?_)
      · have hf := oT hc hf
        exact hret p0_j5 _ _ _ _ _ _ hW (Option.some.inj hf).symm (by decide) (by decide) dJ7_fill_53178_20
      · have hf := oF hc hf
        refine k_aload_n E hl 0 dJ7_fill_53178_10 rfl ?_
        refine k_iload_n E hl 2 dJ7_fill_53178_11 rfl ?_
        refine k_iload_n E hl 1 dJ7_fill_53178_12 rfl ?_
        obtain ⟨hin, hf⟩ := oI hf
        obtain ⟨p0_2, ep0_2, hf⟩ := oL hf
        refine k_iast (ws2 := wIArr k a_p0 z_p0 p0_2) E hW 0 rfl hin dJ7_fill_53178_13 (by rw [ep0_2]; rfl) (fun H locs hW => ?_)
        obtain ⟨v2_3, ev2_3, hf⟩ := oL hf
        refine k_iinc (lv' := [(2, .int v2_3), (0, .ref (a_p0 0)), (1, .int v1_0), (3, .int v3_1)]) E hl 2 dJ7_fill_53178_14 rfl (ev2_3.trans (congrArg (fun z => w2_j5 + z) ic_1.symm)) (by decide) rfl (fun ls hl => ?_)
        refine lv_goto (tgt := 5) E.hx E.hb dJ7_fill_53178_17 (by decide) ?_
        exact ih_5 p0_2 v2_3 _ _ _ hW (lv_sub hl [1, 2, 0, 3] rfl) hf
  exact L_5 n p0_0 (0 : Int32) _ _ _ hW (lv_sub hl [2, 3, 1, 0] rfl) hf
def s_J7_fill_d0a16_6 (n : Nat) (z_p0 : Nat) (w1_j6 : Int64) (w4_j6 : Int32) (rc_6 : (Nat → Int64) → (Int32) → Option ((Nat → Int64))) (p0_j6 : Nat → Int64) (w3_j6 : Int32) : Option ((Nat → Int64)) :=
  if w4_j6 ≤ w3_j6 then (
  some p0_j6) else (
  gI z_p0 w3_j6 (Let (vp_updL p0_j6 w3_j6.toNatClampNeg w1_j6) (fun p0_2 : Nat → Int64 =>
  Let (w3_j6 + (1 : Int32)) (fun v3_3 : Int32 =>
  rc_6 p0_2 v3_3))))
def l_J7_fill_d0a16_6 (n : Nat) (z_p0 : Nat) (w1_j6 : Int64) (w4_j6 : Int32) : Nat → (Nat → Int64) → (Int32) → Option ((Nat → Int64))
  | 0 => fun _ _ => none
  | N + 1 => s_J7_fill_d0a16_6 n z_p0 w1_j6 w4_j6 (l_J7_fill_d0a16_6 n z_p0 w1_j6 w4_j6 N)
def f_J7_fill_d0a16 (n : Nat) (z_p0 : Nat) (p0_0 : Nat → Int64) (v1_0 : Int64) : Option ((Nat → Int64)) :=
  Let (Int32.ofNat z_p0) (fun v4_1 : Int32 =>
  l_J7_fill_d0a16_6 n z_p0 v1_0 v4_1 n p0_0 (0 : Int32))
set_option maxHeartbeats 4000000 in
set_option maxRecDepth 100000 in
theorem c_J7_fill_d0a16 (n : Nat) (l : Launch) (k : KT) (a_p0 : Nat → Nat) (z_p0 : Nat) (p0_0 : Nat → Int64) (v1_0 : Int64) (res : ((Nat → Int64))) (hf : f_J7_fill_d0a16 n z_p0 p0_0 v1_0 = some res) : CG l k yJ7_fill_d0a16 cJ7_fill_d0a16 5 none 0 0 0 0 [.ref (a_p0 0), .long v1_0] (wJArr k a_p0 z_p0 p0_0) (Qv k (fun u : Nat → Int64 => wJArr k a_p0 z_p0 u) (fun u : Nat → Int64 => res = u)) := by
  refine CG.ofV (by decide) (Nat.le_of_ble_eq_true rfl) (fun p e s m args below meth c A Q E hnm hW hA hret ls hl => ?_)
  have hl : lv_has ls 5 [(0, .ref (a_p0 0)), (1, .long v1_0)] := hl
  unfold f_J7_fill_d0a16 at hf
  refine lv_iconst (v := (0 : Int32)) E.hx E.hb dJ7_fill_d0a16_0 ic_0 ?_
  refine k_istore_n (lv' := [(3, .int (0 : Int32)), (0, .ref (a_p0 0)), (1, .long v1_0)]) E rfl hl dJ7_fill_d0a16_1 rfl (by decide) rfl (fun ls hl => ?_)
  refine k_aload_n E hl 1 dJ7_fill_d0a16_2 rfl ?_
  refine k_alen (v := (Int32.ofNat z_p0)) E hW 0 1 rfl rfl rfl dJ7_fill_d0a16_3 ?_
  obtain ⟨v4_1, ev4_1, hf⟩ := oL hf
  refine k_istore (lv' := [(4, .int v4_1), (3, .int (0 : Int32)), (0, .ref (a_p0 0)), (1, .long v1_0)]) E ev4_1 hl dJ7_fill_d0a16_4 (by decide) rfl (fun ls hl => ?_)
  have L_6 : ∀ (N_6 : Nat) (p0_j6 : Nat → Int64) (w3_j6 : Int32) (H : Heap) (locs : List Loc) (ls : Array Slot) (hW : WD k A s.heap (wJArr k a_p0 z_p0 p0_j6) H locs) (hl : lv_has ls 5 [(0, .ref (a_p0 0)), (1, .long v1_0), (3, .int w3_j6), (4, .int v4_1)]) (hf : l_J7_fill_d0a16_6 n z_p0 v1_0 v4_1 N_6 p0_j6 w3_j6 = some res), W p l e { frames := 0, cells := 0, slots := 0, locals := 0 } s m args below meth c H locs 0 0 Q (F0 m 6 ls []) := by
    intro N_6
    induction N_6 with
    | zero => intro p0_j6 w3_j6 H locs ls hW hl hf; exact o0 hf
    | succ N_6 ih_6 =>
      intro p0_j6 w3_j6 H locs ls hW hl hf
      have hf : s_J7_fill_d0a16_6 n z_p0 v1_0 v4_1 (l_J7_fill_d0a16_6 n z_p0 v1_0 v4_1 N_6) p0_j6 w3_j6 = some res := hf
      unfold s_J7_fill_d0a16_6 at hf
      refine k_iload_n E hl 2 dJ7_fill_d0a16_6 rfl ?_
      refine k_iload E hl 3 dJ7_fill_d0a16_7 rfl ?_
      refine lv_icmp_ge (tgt := 22) E.hx E.hb dJ7_fill_d0a16_9 (by decide) (fun hc => ?_) (fun hc => ?_)
      · have hf := oT hc hf
        exact hret p0_j6 _ _ _ _ _ _ hW (Option.some.inj hf).symm (by decide) (by decide) dJ7_fill_d0a16_22
      · have hf := oF hc hf
        refine k_aload_n E hl 0 dJ7_fill_d0a16_12 rfl ?_
        refine k_iload_n E hl 2 dJ7_fill_d0a16_13 rfl ?_
        refine k_lload_n E hl 1 dJ7_fill_d0a16_14 rfl ?_
        obtain ⟨hin, hf⟩ := oI hf
        obtain ⟨p0_2, ep0_2, hf⟩ := oL hf
        refine k_last (ws2 := wJArr k a_p0 z_p0 p0_2) E hW 0 rfl hin dJ7_fill_d0a16_15 (by rw [ep0_2]; rfl) (fun H locs hW => ?_)
        obtain ⟨v3_3, ev3_3, hf⟩ := oL hf
        refine k_iinc (lv' := [(3, .int v3_3), (0, .ref (a_p0 0)), (1, .long v1_0), (4, .int v4_1)]) E hl 2 dJ7_fill_d0a16_16 rfl (ev3_3.trans (congrArg (fun z => w3_j6 + z) ic_1.symm)) (by decide) rfl (fun ls hl => ?_)
        refine lv_goto (tgt := 6) E.hx E.hb dJ7_fill_d0a16_19 (by decide) ?_
        exact ih_6 p0_2 v3_3 _ _ _ hW (lv_sub hl [1, 2, 0, 3] rfl) hf
  exact L_6 n p0_0 (0 : Int32) _ _ _ hW (lv_sub hl [2, 3, 1, 0] rfl) hf
def f_X6_clear (n : Nat) (cols_th : Int32) (z_th : Nat) (th_0 : Nat → Int32) : Option ((Nat → Int32)) :=
  bnd (f_J7_fill_53178 n z_th th_0 (0 : Int32)) (fun (y_1 : Nat → Int32) =>
  Let y_1 (fun th_2 : Nat → Int32 =>
  some th_2))
set_option maxHeartbeats 4000000 in
set_option maxRecDepth 100000 in
theorem c_X6_clear (n : Nat) (l : Launch) (k : KT) (a_th : Nat → Nat) (cols_th : Int32) (z_th : Nat) (th_0 : Nat → Int32) (res : ((Nat → Int32))) (hf : f_X6_clear n cols_th z_th th_0 = some res) : CG l k yX6_clear cX6_clear 1 none 1 0 0 23 [.ref (a_th 0)] (wTable k a_th cols_th z_th th_0) (Qv k (fun u : Nat → Int32 => wTable k a_th cols_th z_th u) (fun u : Nat → Int32 => res = u)) := by
  refine CG.ofV (by decide) (Nat.le_of_ble_eq_true rfl) (fun p e s m args below meth c A Q E hnm hW hA hret ls hl => ?_)
  have hl : lv_has ls 1 [(0, .ref (a_th 0))] := hl
  unfold f_X6_clear at hf
  refine k_aload_n E hl 0 dX6_clear_0 rfl ?_
  refine gf_X6_19 E hW 0 rfl rfl dX6_clear_1 ?_
  refine lv_iconst (v := (0 : Int32)) E.hx E.hb dX6_clear_4 ic_0 ?_
  obtain ⟨y_1, hg, hf⟩ := ob hf
  obtain ⟨th_2, eth_2, hf⟩ := oL hf
  refine k_callSv (As := [.ref (a_th 1), .int (0 : Int32)]) (rest := []) (ws2 := fun u => wTable k a_th cols_th z_th (u)) (c_J7_fill_53178 n l k (fun j => a_th (1 + j)) z_th th_0 (0 : Int32) y_1 hg) E sl_X6_23 dX6_clear_5 rfl [1] hW hA hl rfl rfl ⟨by decide, by decide⟩ ⟨by decide, by decide⟩ (Nat.le_of_ble_eq_true rfl) rfl (fun _ => rfl) (fun _ => rfl) (fun u H locs hp hW => ?_)
  cases hp
  have hW : WD k A s.heap (wTable k a_th cols_th z_th th_2) H locs := by rw [eth_2]; exact hW
  exact hret th_2 _ _ _ _ _ _ hW (Option.some.inj hf).symm (by decide) (by decide) dX6_clear_8
def f_X6_copyFrom (n : Nat) (cols_th : Int32) (z_th : Nat) (th_0 : Nat → Int32) (cols_p1 : Int32) (z_p1 : Nat) (p1_0 : Nat → Int32) : Option ((Nat → Int32)) :=
  oN ((0 : Int32) < 0 ∨ (0 : Int32) < 0 ∨ (if (Int32.ofNat z_p1) < (Int32.ofNat z_th) then (Int32.ofNat z_p1) else (Int32.ofNat z_th)) < 0 ∨ z_p1 < (0 : Int32).toNatClampNeg + (if (Int32.ofNat z_p1) < (Int32.ofNat z_th) then (Int32.ofNat z_p1) else (Int32.ofNat z_th)).toNatClampNeg ∨ z_th < (0 : Int32).toNatClampNeg + (if (Int32.ofNat z_p1) < (Int32.ofNat z_th) then (Int32.ofNat z_p1) else (Int32.ofNat z_th)).toNatClampNeg) (Let (va_cpy p1_0 th_0 (0 : Int32).toNatClampNeg (0 : Int32).toNatClampNeg (if (Int32.ofNat z_p1) < (Int32.ofNat z_th) then (Int32.ofNat z_p1) else (Int32.ofNat z_th)).toNatClampNeg) (fun th_1 : Nat → Int32 =>
  some th_1))
set_option maxHeartbeats 4000000 in
set_option maxRecDepth 100000 in
theorem c_X6_copyFrom (n : Nat) (l : Launch) (k : KT) (a_th : Nat → Nat) (a_p1 : Nat → Nat) (cols_th : Int32) (z_th : Nat) (th_0 : Nat → Int32) (cols_p1 : Int32) (z_p1 : Nat) (p1_0 : Nat → Int32) (res : ((Nat → Int32))) (hf : f_X6_copyFrom n cols_th z_th th_0 cols_p1 z_p1 p1_0 = some res) : CG l k yX6_copyFrom cX6_copyFrom 2 none 1 0 0 26 [.ref (a_th 0), .ref (a_p1 0)] (wTable k a_th cols_th z_th th_0 ++ wTable k a_p1 cols_p1 z_p1 p1_0) (Qv k (fun u : Nat → Int32 => wTable k a_th cols_th z_th u ++ wTable k a_p1 cols_p1 z_p1 p1_0) (fun u : Nat → Int32 => res = u)) := by
  refine CG.ofV (by decide) (Nat.le_of_ble_eq_true rfl) (fun p e s m args below meth c A Q E hnm hW hA hret ls hl => ?_)
  have hl : lv_has ls 2 [(0, .ref (a_th 0)), (1, .ref (a_p1 0))] := hl
  unfold f_X6_copyFrom at hf
  refine k_aload_n E hl 1 dX6_copyFrom_0 rfl ?_
  refine gf_X6_19 E hW 2 rfl rfl dX6_copyFrom_1 ?_
  refine lv_iconst (v := (0 : Int32)) E.hx E.hb dX6_copyFrom_4 ic_0 ?_
  refine k_aload_n E hl 0 dX6_copyFrom_5 rfl ?_
  refine gf_X6_19 E hW 0 rfl rfl dX6_copyFrom_6 ?_
  refine lv_iconst (v := (0 : Int32)) E.hx E.hb dX6_copyFrom_9 ic_0 ?_
  refine k_aload_n E hl 0 dX6_copyFrom_10 rfl ?_
  refine gf_X6_19 E hW 0 rfl rfl dX6_copyFrom_11 ?_
  refine k_alen (v := (Int32.ofNat z_th)) E hW 1 0 rfl rfl rfl dX6_copyFrom_14 ?_
  refine k_aload_n E hl 1 dX6_copyFrom_15 rfl ?_
  refine gf_X6_19 E hW 2 rfl rfl dX6_copyFrom_16 ?_
  refine k_alen (v := (Int32.ofNat z_p1)) E hW 3 0 rfl rfl rfl dX6_copyFrom_19 ?_
  refine va_mmin E.hx E.hb (E.hml.trans hl.1.symm) E.ho (E.w tm_536 rfl) (E.w tm_537 rfl) (E.w tm_35 rfl) (E.w tm_538 rfl) (by decide) (Nat.le_of_ble_eq_true rfl) (by decide) (by decide) dX6_copyFrom_20 ?_
  obtain ⟨hz, hf⟩ := oG hf
  obtain ⟨th_1, eth_1, hf⟩ := oL hf
  refine va_copyi E.hx E.hb (E.hml.trans hl.1.symm) E.ho (E.w tm_539 rfl) (E.w tm_531 rfl) (E.w tm_530 rfl) (E.w tm_49 rfl) E.hK hW.1 hW.2.1 hW.2.2 3 1 0 0 rfl rfl rfl rfl rfl (fun h => hz (Or.inl h)) (fun h => hz (Or.inr (Or.inl h))) (fun h => hz (Or.inr (Or.inr (Or.inl h)))) (Nat.le_of_not_lt (fun h => hz (Or.inr (Or.inr (Or.inr (Or.inl h)))))) (Nat.le_of_not_lt (fun h => hz (Or.inr (Or.inr (Or.inr (Or.inr h)))))) (fun _ _ => rfl) (by decide) (Nat.le_of_ble_eq_true rfl) dX6_copyFrom_23 (fun H locs h1 h2 h3 => ?_)
  have hW : WD k A s.heap (wTable k a_th cols_th z_th th_1 ++ wTable k a_p1 cols_p1 z_p1 p1_0) H locs := by rw [eth_1]; exact ⟨h1, h2, h3⟩
  exact hret th_1 _ _ _ _ _ _ hW (Option.some.inj hf).symm (by decide) (by decide) dX6_copyFrom_26
