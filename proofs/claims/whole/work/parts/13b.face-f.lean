theorem tm_1191 : (Jvm.Cond.methodLink "MemoryCourt" (355 : Nat) ({ cls := "java/lang/Math", name := "min", desc := "(II)I" } : Jvm.MethodName)) ∈ lw_tbl := List.mem_of_getElem? (i := 1191) (by decide +kernel)
theorem tm_394 : (Jvm.Cond.fieldLink "MemoryCourt" (35 : Nat) "MemoryCourt" "forecast" "LMemoryCourt$Court;") ∈ lw_tbl := List.mem_of_getElem? (i := 394) (by decide +kernel)
theorem tm_1033 : (Jvm.Cond.methodLink "MemoryCourt" (286 : Nat) ({ cls := "MemoryCourt$Court", name := "tick", desc := "(LMemoryCourt$Rules;)I" } : Jvm.MethodName)) ∈ lw_tbl := List.mem_of_getElem? (i := 1033) (by decide +kernel)
theorem tm_1034 : (Jvm.Cond.instanceMethod ({ cls := "MemoryCourt$Court", name := "tick", desc := "(LMemoryCourt$Rules;)I" } : Jvm.MethodName)) ∈ lw_tbl := List.mem_of_getElem? (i := 1034) (by decide +kernel)
theorem tm_1035 : (Jvm.Cond.selects "MemoryCourt$Court" ({ cls := "MemoryCourt$Court", name := "tick", desc := "(LMemoryCourt$Rules;)I" } : Jvm.MethodName) ({ cls := "MemoryCourt$Court", name := "tick", desc := "(LMemoryCourt$Rules;)I" } : Jvm.MethodName)) ∈ lw_tbl := List.mem_of_getElem? (i := 1035) (by decide +kernel)
theorem tm_1036 : (Jvm.Cond.code ({ cls := "MemoryCourt$Court", name := "tick", desc := "(LMemoryCourt$Rules;)I" } : Jvm.MethodName) prog_4_method_38_code (3 : Nat) (Option.some Jvm.ClassFile.FieldType.int)) ∈ lw_tbl := List.mem_of_getElem? (i := 1036) (by decide +kernel)
theorem tm_1206 : (Jvm.Cond.methodLink "MemoryCourt" (341 : Nat) ({ cls := "MemoryCourt", name := "nextHearing", desc := "()I" } : Jvm.MethodName)) ∈ lw_tbl := List.mem_of_getElem? (i := 1206) (by decide +kernel)
theorem tm_684 : (Jvm.Cond.instanceMethod ({ cls := "MemoryCourt", name := "nextHearing", desc := "()I" } : Jvm.MethodName)) ∈ lw_tbl := List.mem_of_getElem? (i := 684) (by decide +kernel)
theorem tm_685 : (Jvm.Cond.selects "MemoryCourt" ({ cls := "MemoryCourt", name := "nextHearing", desc := "()I" } : Jvm.MethodName) ({ cls := "MemoryCourt", name := "nextHearing", desc := "()I" } : Jvm.MethodName)) ∈ lw_tbl := List.mem_of_getElem? (i := 685) (by decide +kernel)
theorem tm_686 : (Jvm.Cond.code ({ cls := "MemoryCourt", name := "nextHearing", desc := "()I" } : Jvm.MethodName) prog_1_method_20_code (1 : Nat) (Option.some Jvm.ClassFile.FieldType.int)) ∈ lw_tbl := List.mem_of_getElem? (i := 686) (by decide +kernel)
theorem tm_1107 : (Jvm.Cond.methodLink "MemoryCourt" (298 : Nat) ({ cls := "MemoryCourt$Court", name := "waits", desc := "(I)Z" } : Jvm.MethodName)) ∈ lw_tbl := List.mem_of_getElem? (i := 1107) (by decide +kernel)
theorem tm_622 : (Jvm.Cond.methodLink "MemoryCourt" (90 : Nat) ({ cls := "MemoryCourt$Court", name := "copyFrom", desc := "(LMemoryCourt$Court;)V" } : Jvm.MethodName)) ∈ lw_tbl := List.mem_of_getElem? (i := 622) (by decide +kernel)
theorem tm_623 : (Jvm.Cond.instanceMethod ({ cls := "MemoryCourt$Court", name := "copyFrom", desc := "(LMemoryCourt$Court;)V" } : Jvm.MethodName)) ∈ lw_tbl := List.mem_of_getElem? (i := 623) (by decide +kernel)
theorem tm_624 : (Jvm.Cond.selects "MemoryCourt$Court" ({ cls := "MemoryCourt$Court", name := "copyFrom", desc := "(LMemoryCourt$Court;)V" } : Jvm.MethodName) ({ cls := "MemoryCourt$Court", name := "copyFrom", desc := "(LMemoryCourt$Court;)V" } : Jvm.MethodName)) ∈ lw_tbl := List.mem_of_getElem? (i := 624) (by decide +kernel)
theorem tm_625 : (Jvm.Cond.code ({ cls := "MemoryCourt$Court", name := "copyFrom", desc := "(LMemoryCourt$Court;)V" } : Jvm.MethodName) prog_4_method_3_code (2 : Nat) (Option.none : Option Jvm.ClassFile.FieldType)) ∈ lw_tbl := List.mem_of_getElem? (i := 625) (by decide +kernel)
theorem tm_1002 : (Jvm.Cond.methodLink "MemoryCourt" (275 : Nat) ({ cls := "MemoryCourt", name := "needTicks", desc := "(I)V" } : Jvm.MethodName)) ∈ lw_tbl := List.mem_of_getElem? (i := 1002) (by decide +kernel)
theorem tm_1004 : (Jvm.Cond.instanceMethod ({ cls := "MemoryCourt", name := "needTicks", desc := "(I)V" } : Jvm.MethodName)) ∈ lw_tbl := List.mem_of_getElem? (i := 1004) (by decide +kernel)
theorem tms_23 : (Jvm.Cond.selects "MemoryCourt" ({ cls := "MemoryCourt", name := "needTicks", desc := "(I)V" } : Jvm.MethodName) ({ cls := "MemoryCourt", name := "needTicks", desc := "(I)V" } : Jvm.MethodName)) ∈ lw_tbl := List.mem_of_getElem? (i := 23) (by decide +kernel)
theorem tm_1005 : (Jvm.Cond.code ({ cls := "MemoryCourt", name := "needTicks", desc := "(I)V" } : Jvm.MethodName) prog_1_method_53_code (2 : Nat) (Option.none : Option Jvm.ClassFile.FieldType)) ∈ lw_tbl := List.mem_of_getElem? (i := 1005) (by decide +kernel)
theorem tm_1187 : (Jvm.Cond.methodLink "MemoryCourt" (338 : Nat) ({ cls := "MemoryCourt", name := "ticksUntil", desc := "(III)I" } : Jvm.MethodName)) ∈ lw_tbl := List.mem_of_getElem? (i := 1187) (by decide +kernel)
theorem tm_1189 : (Jvm.Cond.instanceMethod ({ cls := "MemoryCourt", name := "ticksUntil", desc := "(III)I" } : Jvm.MethodName)) ∈ lw_tbl := List.mem_of_getElem? (i := 1189) (by decide +kernel)
theorem tms_31 : (Jvm.Cond.selects "MemoryCourt" ({ cls := "MemoryCourt", name := "ticksUntil", desc := "(III)I" } : Jvm.MethodName) ({ cls := "MemoryCourt", name := "ticksUntil", desc := "(III)I" } : Jvm.MethodName)) ∈ lw_tbl := List.mem_of_getElem? (i := 31) (by decide +kernel)
theorem tm_1190 : (Jvm.Cond.code ({ cls := "MemoryCourt", name := "ticksUntil", desc := "(III)I" } : Jvm.MethodName) prog_1_method_54_code (6 : Nat) (Option.some Jvm.ClassFile.FieldType.int)) ∈ lw_tbl := List.mem_of_getElem? (i := 1190) (by decide +kernel)
theorem tm_1207 : (Jvm.Cond.methodLink "MemoryCourt" (344 : Nat) ({ cls := "MemoryCourt", name := "passToHearing", desc := "()V" } : Jvm.MethodName)) ∈ lw_tbl := List.mem_of_getElem? (i := 1207) (by decide +kernel)
theorem tm_1209 : (Jvm.Cond.instanceMethod ({ cls := "MemoryCourt", name := "passToHearing", desc := "()V" } : Jvm.MethodName)) ∈ lw_tbl := List.mem_of_getElem? (i := 1209) (by decide +kernel)
theorem tms_32 : (Jvm.Cond.selects "MemoryCourt" ({ cls := "MemoryCourt", name := "passToHearing", desc := "()V" } : Jvm.MethodName) ({ cls := "MemoryCourt", name := "passToHearing", desc := "()V" } : Jvm.MethodName)) ∈ lw_tbl := List.mem_of_getElem? (i := 32) (by decide +kernel)
theorem tm_1210 : (Jvm.Cond.code ({ cls := "MemoryCourt", name := "passToHearing", desc := "()V" } : Jvm.MethodName) prog_1_method_56_code (3 : Nat) (Option.none : Option Jvm.ClassFile.FieldType)) ∈ lw_tbl := List.mem_of_getElem? (i := 1210) (by decide +kernel)
theorem tm_1218 : (Jvm.Cond.methodLink "MemoryCourt" (347 : Nat) ({ cls := "MemoryCourt$Court", name := "latestFines", desc := "(I)I" } : Jvm.MethodName)) ∈ lw_tbl := List.mem_of_getElem? (i := 1218) (by decide +kernel)
theorem tm_1219 : (Jvm.Cond.instanceMethod ({ cls := "MemoryCourt$Court", name := "latestFines", desc := "(I)I" } : Jvm.MethodName)) ∈ lw_tbl := List.mem_of_getElem? (i := 1219) (by decide +kernel)
theorem tm_1220 : (Jvm.Cond.selects "MemoryCourt$Court" ({ cls := "MemoryCourt$Court", name := "latestFines", desc := "(I)I" } : Jvm.MethodName) ({ cls := "MemoryCourt$Court", name := "latestFines", desc := "(I)I" } : Jvm.MethodName)) ∈ lw_tbl := List.mem_of_getElem? (i := 1220) (by decide +kernel)
theorem tm_1221 : (Jvm.Cond.code ({ cls := "MemoryCourt$Court", name := "latestFines", desc := "(I)I" } : Jvm.MethodName) prog_4_method_17_code (4 : Nat) (Option.some Jvm.ClassFile.FieldType.int)) ∈ lw_tbl := List.mem_of_getElem? (i := 1221) (by decide +kernel)
theorem tm_1229 : (Jvm.Cond.methodLink "MemoryCourt" (350 : Nat) ({ cls := "MemoryCourt", name := "pass", desc := "(I)I" } : Jvm.MethodName)) ∈ lw_tbl := List.mem_of_getElem? (i := 1229) (by decide +kernel)
theorem tm_1231 : (Jvm.Cond.instanceMethod ({ cls := "MemoryCourt", name := "pass", desc := "(I)I" } : Jvm.MethodName)) ∈ lw_tbl := List.mem_of_getElem? (i := 1231) (by decide +kernel)
theorem tms_33 : (Jvm.Cond.selects "MemoryCourt" ({ cls := "MemoryCourt", name := "pass", desc := "(I)I" } : Jvm.MethodName) ({ cls := "MemoryCourt", name := "pass", desc := "(I)I" } : Jvm.MethodName)) ∈ lw_tbl := List.mem_of_getElem? (i := 33) (by decide +kernel)
theorem tm_1232 : (Jvm.Cond.code ({ cls := "MemoryCourt", name := "pass", desc := "(I)I" } : Jvm.MethodName) prog_1_method_55_code (5 : Nat) (Option.some Jvm.ClassFile.FieldType.int)) ∈ lw_tbl := List.mem_of_getElem? (i := 1232) (by decide +kernel)
theorem tm_1118 : (Jvm.Cond.methodLink "MemoryCourt" (309 : Nat) ({ cls := "MemoryCourt$Court", name := "release", desc := "(II)V" } : Jvm.MethodName)) ∈ lw_tbl := List.mem_of_getElem? (i := 1118) (by decide +kernel)
theorem tm_1147 : (Jvm.Cond.methodLink "MemoryCourt" (323 : Nat) ({ cls := "MemoryCourt$Court", name := "isAppealable", desc := "(II)Z" } : Jvm.MethodName)) ∈ lw_tbl := List.mem_of_getElem? (i := 1147) (by decide +kernel)
theorem tm_1148 : (Jvm.Cond.instanceMethod ({ cls := "MemoryCourt$Court", name := "isAppealable", desc := "(II)Z" } : Jvm.MethodName)) ∈ lw_tbl := List.mem_of_getElem? (i := 1148) (by decide +kernel)
theorem tm_1149 : (Jvm.Cond.selects "MemoryCourt$Court" ({ cls := "MemoryCourt$Court", name := "isAppealable", desc := "(II)Z" } : Jvm.MethodName) ({ cls := "MemoryCourt$Court", name := "isAppealable", desc := "(II)Z" } : Jvm.MethodName)) ∈ lw_tbl := List.mem_of_getElem? (i := 1149) (by decide +kernel)
theorem tm_1150 : (Jvm.Cond.code ({ cls := "MemoryCourt$Court", name := "isAppealable", desc := "(II)Z" } : Jvm.MethodName) prog_4_method_32_code (3 : Nat) (Option.some Jvm.ClassFile.FieldType.boolean)) ∈ lw_tbl := List.mem_of_getElem? (i := 1150) (by decide +kernel)
theorem tm_1262 : (Jvm.Cond.methodLink "MemoryCourt" (358 : Nat) ({ cls := "MemoryCourt$Court", name := "lessBy", desc := "(II)I" } : Jvm.MethodName)) ∈ lw_tbl := List.mem_of_getElem? (i := 1262) (by decide +kernel)
theorem tm_391 : (Jvm.Cond.fieldLink "MemoryCourt" (18 : Nat) "MemoryCourt" "output" "LMemoryCourt$Bytes;") ∈ lw_tbl := List.mem_of_getElem? (i := 391) (by decide +kernel)
theorem tm_1270 : (Jvm.Cond.methodLink "MemoryCourt" (361 : Nat) ({ cls := "MemoryCourt$Rules", name := "printName", desc := "(ILMemoryCourt$Bytes;)V" } : Jvm.MethodName)) ∈ lw_tbl := List.mem_of_getElem? (i := 1270) (by decide +kernel)
theorem tm_1271 : (Jvm.Cond.instanceMethod ({ cls := "MemoryCourt$Rules", name := "printName", desc := "(ILMemoryCourt$Bytes;)V" } : Jvm.MethodName)) ∈ lw_tbl := List.mem_of_getElem? (i := 1271) (by decide +kernel)
theorem tm_1272 : (Jvm.Cond.selects "MemoryCourt$Rules" ({ cls := "MemoryCourt$Rules", name := "printName", desc := "(ILMemoryCourt$Bytes;)V" } : Jvm.MethodName) ({ cls := "MemoryCourt$Rules", name := "printName", desc := "(ILMemoryCourt$Bytes;)V" } : Jvm.MethodName)) ∈ lw_tbl := List.mem_of_getElem? (i := 1272) (by decide +kernel)
theorem tm_1273 : (Jvm.Cond.code ({ cls := "MemoryCourt$Rules", name := "printName", desc := "(ILMemoryCourt$Bytes;)V" } : Jvm.MethodName) prog_7_method_8_code (5 : Nat) (Option.none : Option Jvm.ClassFile.FieldType)) ∈ lw_tbl := List.mem_of_getElem? (i := 1273) (by decide +kernel)
theorem tm_1276 : (Jvm.Cond.methodLink "MemoryCourt" (365 : Nat) ({ cls := "MemoryCourt$Bytes", name := "put", desc := "(I)V" } : Jvm.MethodName)) ∈ lw_tbl := List.mem_of_getElem? (i := 1276) (by decide +kernel)
theorem tm_1277 : (Jvm.Cond.methodLink "MemoryCourt" (368 : Nat) ({ cls := "MemoryCourt$Bytes", name := "putNumber", desc := "(I)V" } : Jvm.MethodName)) ∈ lw_tbl := List.mem_of_getElem? (i := 1277) (by decide +kernel)
theorem tm_1282 : (Jvm.Cond.methodLink "MemoryCourt" (371 : Nat) ({ cls := "MemoryCourt$Court", name := "printLoans", desc := "(ILMemoryCourt$Bytes;)V" } : Jvm.MethodName)) ∈ lw_tbl := List.mem_of_getElem? (i := 1282) (by decide +kernel)
theorem tm_1283 : (Jvm.Cond.instanceMethod ({ cls := "MemoryCourt$Court", name := "printLoans", desc := "(ILMemoryCourt$Bytes;)V" } : Jvm.MethodName)) ∈ lw_tbl := List.mem_of_getElem? (i := 1283) (by decide +kernel)
theorem tm_1284 : (Jvm.Cond.selects "MemoryCourt$Court" ({ cls := "MemoryCourt$Court", name := "printLoans", desc := "(ILMemoryCourt$Bytes;)V" } : Jvm.MethodName) ({ cls := "MemoryCourt$Court", name := "printLoans", desc := "(ILMemoryCourt$Bytes;)V" } : Jvm.MethodName)) ∈ lw_tbl := List.mem_of_getElem? (i := 1284) (by decide +kernel)
theorem tm_1285 : (Jvm.Cond.code ({ cls := "MemoryCourt$Court", name := "printLoans", desc := "(ILMemoryCourt$Bytes;)V" } : Jvm.MethodName) prog_4_method_21_code (4 : Nat) (Option.none : Option Jvm.ClassFile.FieldType)) ∈ lw_tbl := List.mem_of_getElem? (i := 1285) (by decide +kernel)
theorem tm_744 : (Jvm.Cond.methodLink "MemoryCourt" (374 : Nat) ({ cls := "MemoryCourt$Bytes", name := "at", desc := "(I)I" } : Jvm.MethodName)) ∈ lw_tbl := List.mem_of_getElem? (i := 744) (by decide +kernel)
theorem gf_X8_35 {p : Program} {l : Launch} {e : Env} {R : Room} {s : State} {m : MethodId} {args : Array Value} {below : List Frame} {meth : Method} {c : Code} {H : Heap} {locs : List Loc} {cells slots : Nat} {Q : State → Prop} {cc : ByteArray} {pc nL : Nat} {ls : Array Slot} {rest : List Value} {k : KT} {A : Nat → Prop} {ws : va_W} {H0 : Heap} {a : Nat} (E : E0 p s m c cc nL RX8 k A) (hW : WD k A H0 ws H locs) (q0 : Nat) {fs : List Value} (he : ws[q0]? = some (a, .inr (6, fs))) {v : Value} (hv : fs[4]? = some v) (hdg : decode cc pc = .ok (.getfield 35, 3)) (q : W p l e R s m args below meth c H locs cells slots Q (F0 m (pc + 3) ls (v :: rest))) : W p l e R s m args below meth c H locs cells slots Q (F0 m pc ls (.ref a :: rest)) := va_get (C := RX8) (T := TX8) (N := 9) (ci := 6) E.hx E.hb (Ts := wsX80) (fun w hw => E.w (inX8 w hw) (tbl_laysX8 w hw)) (fun _ h => h) E.ho E.hK hW.1 q0 he rfl 4 (by decide) (E.w tm_394 rfl) (fun _ h => h) hv hdg q
theorem pf_X8_111 {p : Program} {l : Launch} {e : Env} {R : Room} {s : State} {m : MethodId} {args : Array Value} {below : List Frame} {meth : Method} {c : Code} {H : Heap} {locs : List Loc} {cells slots : Nat} {Q : State → Prop} {cc : ByteArray} {pc nL : Nat} {ls : Array Slot} {rest : List Value} {k : KT} {A : Nat → Prop} {ws ws2 : va_W} {H0 : Heap} {a : Nat} (E : E0 p s m c cc nL RX8 k A) (hW : WD k A H0 ws H locs) (q0 : Nat) {fs : List Value} (he : ws[q0]? = some (a, .inr (1, fs))) {v : Value} (hn : narrow (tyX2 1) v = v) (hfit : fits (tyX2 1) v = true) (hl : 1 < fs.length) (hdg : decode cc pc = .ok (.putfield 111, 3)) (hws : ws.set q0 (a, .inr (1, fs.set 1 v)) = ws2) (q : ∀ (H1 : Heap) (locs1 : List Loc), WD k A H0 ws2 H1 locs1 → W p l e R s m args below meth c H1 locs1 cells slots Q (F0 m (pc + 3) ls rest)) : W p l e R s m args below meth c H locs cells slots Q (F0 m pc ls (v :: .ref a :: rest)) := by
  subst hws
  exact va_putN (C := RX2) (T := TX2) (N := 16) (ci := 1) (ty := tyX2 1) E.hx E.hb (Ts := wsX20) (fun w hw => E.w (inX2 w hw) (tbl_laysX2 w hw)) (fun _ h => h) tyX2 tyX2_ok nmX2 E.ho E.hK hW.1 hW.2.1 hW.2.2 q0 he rfl 1 (by decide) (E.w tm_229 rfl) (fun _ h => h) rfl (tyX2_ok 1 (by decide)) hn hfit hl hdg (fun H1 locs1 h1 h2 h3 => q H1 locs1 ⟨h1, h2, h3⟩)
theorem gf_X8_18 {p : Program} {l : Launch} {e : Env} {R : Room} {s : State} {m : MethodId} {args : Array Value} {below : List Frame} {meth : Method} {c : Code} {H : Heap} {locs : List Loc} {cells slots : Nat} {Q : State → Prop} {cc : ByteArray} {pc nL : Nat} {ls : Array Slot} {rest : List Value} {k : KT} {A : Nat → Prop} {ws : va_W} {H0 : Heap} {a : Nat} (E : E0 p s m c cc nL RX8 k A) (hW : WD k A H0 ws H locs) (q0 : Nat) {fs : List Value} (he : ws[q0]? = some (a, .inr (6, fs))) {v : Value} (hv : fs[1]? = some v) (hdg : decode cc pc = .ok (.getfield 18, 3)) (q : W p l e R s m args below meth c H locs cells slots Q (F0 m (pc + 3) ls (v :: rest))) : W p l e R s m args below meth c H locs cells slots Q (F0 m pc ls (.ref a :: rest)) := va_get (C := RX8) (T := TX8) (N := 9) (ci := 6) E.hx E.hb (Ts := wsX80) (fun w hw => E.w (inX8 w hw) (tbl_laysX8 w hw)) (fun _ h => h) E.ho E.hK hW.1 q0 he rfl 1 (by decide) (E.w tm_391 rfl) (fun _ h => h) hv hdg q
theorem vl_X8_286 : VL RX8 286 RX2 yX2_tick cX2_tick 3 (some .int) 1 := ⟨⟨tm_1033, tm_1034, tm_1035, tm_113, tm_1036⟩, by decide +kernel⟩
theorem vl_X8_341 : VL RX8 341 RX8 yX8_nextHearing cX8_nextHearing 1 (some .int) 0 := ⟨⟨tm_1206, tm_684, tm_685, tm_108, tm_686⟩, by decide +kernel⟩
theorem vl_X8_298 : VL RX8 298 RX2 yX2_waits cX2_waits 2 (some .boolean) 1 := ⟨⟨tm_1107, tm_700, tm_701, tm_113, tm_702⟩, by decide +kernel⟩
theorem vl_X8_90 : VL RX8 90 RX2 yX2_copyFrom cX2_copyFrom 2 none 1 := ⟨⟨tm_622, tm_623, tm_624, tm_113, tm_625⟩, by decide +kernel⟩
theorem vl_X8_275 : VL RX8 275 RX8 yX8_needTicks cX8_needTicks 2 none 1 := ⟨⟨tm_1002, tm_1004, tms_23, tm_108, tm_1005⟩, by decide +kernel⟩
theorem vl_X8_338 : VL RX8 338 RX8 yX8_ticksUntil cX8_ticksUntil 6 (some .int) 3 := ⟨⟨tm_1187, tm_1189, tms_31, tm_108, tm_1190⟩, by decide +kernel⟩
theorem vl_X8_344 : VL RX8 344 RX8 yX8_passToHearing cX8_passToHearing 3 none 0 := ⟨⟨tm_1207, tm_1209, tms_32, tm_108, tm_1210⟩, by decide +kernel⟩
theorem vl_X8_347 : VL RX8 347 RX2 yX2_latestFines cX2_latestFines 4 (some .int) 1 := ⟨⟨tm_1218, tm_1219, tm_1220, tm_113, tm_1221⟩, by decide +kernel⟩
theorem vl_X8_350 : VL RX8 350 RX8 yX8_pass cX8_pass 5 (some .int) 1 := ⟨⟨tm_1229, tm_1231, tms_33, tm_108, tm_1232⟩, by decide +kernel⟩
theorem vl_X8_309 : VL RX8 309 RX2 yX2_release cX2_release 5 none 2 := ⟨⟨tm_1118, tm_1082, tm_1083, tm_113, tm_1084⟩, by decide +kernel⟩
theorem vl_X8_323 : VL RX8 323 RX2 yX2_isAppealable cX2_isAppealable 3 (some .boolean) 2 := ⟨⟨tm_1147, tm_1148, tm_1149, tm_113, tm_1150⟩, by decide +kernel⟩
theorem vl_X8_358 : VL RX8 358 RX2 yX2_lessBy cX2_lessBy 5 (some .int) 2 := ⟨⟨tm_1262, tm_1157, tm_1158, tm_113, tm_1159⟩, by decide +kernel⟩
theorem vl_X8_361 : VL RX8 361 RX5 yX5_printName cX5_printName 5 none 2 := ⟨⟨tm_1270, tm_1271, tm_1272, tm_111, tm_1273⟩, by decide +kernel⟩
theorem vl_X8_365 : VL RX8 365 RX1 yX1_put cX1_put 2 none 1 := ⟨⟨tm_1276, tm_427, tm_428, tm_109, tm_429⟩, by decide +kernel⟩
theorem vl_X8_368 : VL RX8 368 RX1 yX1_putNumber cX1_putNumber 3 none 1 := ⟨⟨tm_1277, tm_1278, tm_1279, tm_109, tm_1280⟩, by decide +kernel⟩
theorem vl_X8_371 : VL RX8 371 RX2 yX2_printLoans cX2_printLoans 4 none 2 := ⟨⟨tm_1282, tm_1283, tm_1284, tm_113, tm_1285⟩, by decide +kernel⟩
theorem vl_X8_374 : VL RX8 374 RX1 yX1_at cX1_at 2 (some .int) 1 := ⟨⟨tm_744, tm_451, tm_452, tm_109, tm_453⟩, by decide +kernel⟩
theorem dX8_pass_0 : decode cX8_pass 0 = .ok (.iload_n 1, 1) := by decide +kernel
theorem dX8_pass_1 : decode cX8_pass 1 = .ok (.sipush 2000, 3) := by decide +kernel
theorem dX8_pass_4 : decode cX8_pass 4 = .ok (.aload_n 0, 1) := by decide +kernel
theorem dX8_pass_5 : decode cX8_pass 5 = .ok (.getfield 31, 3) := by decide +kernel
theorem dX8_pass_8 : decode cX8_pass 8 = .ok (.getfield 108, 3) := by decide +kernel
theorem dX8_pass_11 : decode cX8_pass 11 = .ok (.isub, 1) := by decide +kernel
theorem dX8_pass_12 : decode cX8_pass 12 = .ok (.invokestatic 355, 3) := by decide +kernel
theorem dX8_pass_15 : decode cX8_pass 15 = .ok (.istore_n 2, 1) := by decide +kernel
theorem dX8_pass_16 : decode cX8_pass 16 = .ok (.iconst 0, 1) := by decide +kernel
theorem dX8_pass_17 : decode cX8_pass 17 = .ok (.istore_n 3, 1) := by decide +kernel
theorem dX8_pass_18 : decode cX8_pass 18 = .ok (.iconst 0, 1) := by decide +kernel
theorem dX8_pass_19 : decode cX8_pass 19 = .ok (.istore 4, 2) := by decide +kernel
theorem dX8_pass_21 : decode cX8_pass 21 = .ok (.iload 4, 2) := by decide +kernel
theorem dX8_pass_23 : decode cX8_pass 23 = .ok (.iload_n 2, 1) := by decide +kernel
theorem dX8_pass_24 : decode cX8_pass 24 = .ok (.if_icmp .ge 23, 3) := by decide +kernel
theorem dX8_pass_27 : decode cX8_pass 27 = .ok (.iload_n 3, 1) := by decide +kernel
theorem dX8_pass_28 : decode cX8_pass 28 = .ok (.aload_n 0, 1) := by decide +kernel
theorem dX8_pass_29 : decode cX8_pass 29 = .ok (.getfield 35, 3) := by decide +kernel
theorem dX8_pass_32 : decode cX8_pass 32 = .ok (.aload_n 0, 1) := by decide +kernel
theorem dX8_pass_33 : decode cX8_pass 33 = .ok (.getfield 24, 3) := by decide +kernel
theorem dX8_pass_36 : decode cX8_pass 36 = .ok (.invokevirtual 286, 3) := by decide +kernel
theorem dX8_pass_39 : decode cX8_pass 39 = .ok (.iadd, 1) := by decide +kernel
theorem dX8_pass_40 : decode cX8_pass 40 = .ok (.istore_n 3, 1) := by decide +kernel
theorem dX8_pass_41 : decode cX8_pass 41 = .ok (.iinc 4 1, 3) := by decide +kernel
theorem dX8_pass_44 : decode cX8_pass 44 = .ok (.goto (-23), 3) := by decide +kernel
theorem dX8_pass_47 : decode cX8_pass 47 = .ok (.iload_n 3, 1) := by decide +kernel
theorem dX8_pass_48 : decode cX8_pass 48 = .ok (.ireturn, 1) := by decide +kernel
theorem dX8_passToHearing_0 : decode cX8_passToHearing 0 = .ok (.aload_n 0, 1) := by decide +kernel
theorem dX8_passToHearing_1 : decode cX8_passToHearing 1 = .ok (.invokevirtual 341, 3) := by decide +kernel
theorem dX8_passToHearing_4 : decode cX8_passToHearing 4 = .ok (.aload_n 0, 1) := by decide +kernel
theorem dX8_passToHearing_5 : decode cX8_passToHearing 5 = .ok (.getfield 31, 3) := by decide +kernel
theorem dX8_passToHearing_8 : decode cX8_passToHearing 8 = .ok (.getfield 108, 3) := by decide +kernel
theorem dX8_passToHearing_11 : decode cX8_passToHearing 11 = .ok (.isub, 1) := by decide +kernel
theorem dX8_passToHearing_12 : decode cX8_passToHearing 12 = .ok (.istore_n 1, 1) := by decide +kernel
theorem dX8_passToHearing_13 : decode cX8_passToHearing 13 = .ok (.iconst 0, 1) := by decide +kernel
theorem dX8_passToHearing_14 : decode cX8_passToHearing 14 = .ok (.istore_n 2, 1) := by decide +kernel
theorem dX8_passToHearing_15 : decode cX8_passToHearing 15 = .ok (.iload_n 2, 1) := by decide +kernel
theorem dX8_passToHearing_16 : decode cX8_passToHearing 16 = .ok (.iload_n 1, 1) := by decide +kernel
theorem dX8_passToHearing_17 : decode cX8_passToHearing 17 = .ok (.if_icmp .ge 21, 3) := by decide +kernel
theorem dX8_passToHearing_20 : decode cX8_passToHearing 20 = .ok (.aload_n 0, 1) := by decide +kernel
theorem dX8_passToHearing_21 : decode cX8_passToHearing 21 = .ok (.getfield 35, 3) := by decide +kernel
theorem dX8_passToHearing_24 : decode cX8_passToHearing 24 = .ok (.aload_n 0, 1) := by decide +kernel
theorem dX8_passToHearing_25 : decode cX8_passToHearing 25 = .ok (.getfield 24, 3) := by decide +kernel
theorem dX8_passToHearing_28 : decode cX8_passToHearing 28 = .ok (.invokevirtual 286, 3) := by decide +kernel
theorem dX8_passToHearing_31 : decode cX8_passToHearing 31 = .ok (.pop, 1) := by decide +kernel
theorem dX8_passToHearing_32 : decode cX8_passToHearing 32 = .ok (.iinc 2 1, 3) := by decide +kernel
theorem dX8_passToHearing_35 : decode cX8_passToHearing 35 = .ok (.goto (-20), 3) := by decide +kernel
theorem dX8_passToHearing_38 : decode cX8_passToHearing 38 = .ok (.return_, 1) := by decide +kernel
theorem dX8_ticksUntil_0 : decode cX8_ticksUntil 0 = .ok (.aload_n 0, 1) := by decide +kernel
theorem dX8_ticksUntil_1 : decode cX8_ticksUntil 1 = .ok (.getfield 31, 3) := by decide +kernel
theorem dX8_ticksUntil_4 : decode cX8_ticksUntil 4 = .ok (.iload_n 1, 1) := by decide +kernel
theorem dX8_ticksUntil_5 : decode cX8_ticksUntil 5 = .ok (.invokevirtual 298, 3) := by decide +kernel
theorem dX8_ticksUntil_8 : decode cX8_ticksUntil 8 = .ok (.ifCond .ne 5, 3) := by decide +kernel
theorem dX8_ticksUntil_11 : decode cX8_ticksUntil 11 = .ok (.iconst (-1), 1) := by decide +kernel
theorem dX8_ticksUntil_12 : decode cX8_ticksUntil 12 = .ok (.ireturn, 1) := by decide +kernel
theorem dX8_ticksUntil_13 : decode cX8_ticksUntil 13 = .ok (.aload_n 0, 1) := by decide +kernel
theorem dX8_ticksUntil_14 : decode cX8_ticksUntil 14 = .ok (.getfield 35, 3) := by decide +kernel
theorem dX8_ticksUntil_17 : decode cX8_ticksUntil 17 = .ok (.aload_n 0, 1) := by decide +kernel
theorem dX8_ticksUntil_18 : decode cX8_ticksUntil 18 = .ok (.getfield 31, 3) := by decide +kernel
theorem dX8_ticksUntil_21 : decode cX8_ticksUntil 21 = .ok (.invokevirtual 90, 3) := by decide +kernel
theorem dX8_ticksUntil_24 : decode cX8_ticksUntil 24 = .ok (.iload_n 3, 1) := by decide +kernel
theorem dX8_ticksUntil_25 : decode cX8_ticksUntil 25 = .ok (.sipush 2000, 3) := by decide +kernel
theorem dX8_ticksUntil_28 : decode cX8_ticksUntil 28 = .ok (.aload_n 0, 1) := by decide +kernel
theorem dX8_ticksUntil_29 : decode cX8_ticksUntil 29 = .ok (.getfield 31, 3) := by decide +kernel
theorem dX8_ticksUntil_32 : decode cX8_ticksUntil 32 = .ok (.getfield 108, 3) := by decide +kernel
theorem dX8_ticksUntil_35 : decode cX8_ticksUntil 35 = .ok (.isub, 1) := by decide +kernel
theorem dX8_ticksUntil_36 : decode cX8_ticksUntil 36 = .ok (.invokestatic 355, 3) := by decide +kernel
theorem dX8_ticksUntil_39 : decode cX8_ticksUntil 39 = .ok (.istore 4, 2) := by decide +kernel
theorem dX8_ticksUntil_41 : decode cX8_ticksUntil 41 = .ok (.iconst 1, 1) := by decide +kernel
theorem dX8_ticksUntil_42 : decode cX8_ticksUntil 42 = .ok (.istore 5, 2) := by decide +kernel
theorem dX8_ticksUntil_44 : decode cX8_ticksUntil 44 = .ok (.iload 5, 2) := by decide +kernel
theorem dX8_ticksUntil_46 : decode cX8_ticksUntil 46 = .ok (.iload 4, 2) := by decide +kernel
theorem dX8_ticksUntil_48 : decode cX8_ticksUntil 48 = .ok (.if_icmp .gt 40, 3) := by decide +kernel
theorem dX8_ticksUntil_51 : decode cX8_ticksUntil 51 = .ok (.aload_n 0, 1) := by decide +kernel
theorem dX8_ticksUntil_52 : decode cX8_ticksUntil 52 = .ok (.getfield 35, 3) := by decide +kernel
theorem dX8_ticksUntil_55 : decode cX8_ticksUntil 55 = .ok (.aload_n 0, 1) := by decide +kernel
theorem dX8_ticksUntil_56 : decode cX8_ticksUntil 56 = .ok (.getfield 24, 3) := by decide +kernel
theorem dX8_ticksUntil_59 : decode cX8_ticksUntil 59 = .ok (.invokevirtual 286, 3) := by decide +kernel
theorem dX8_ticksUntil_62 : decode cX8_ticksUntil 62 = .ok (.pop, 1) := by decide +kernel
theorem dX8_ticksUntil_63 : decode cX8_ticksUntil 63 = .ok (.aload_n 0, 1) := by decide +kernel
theorem dX8_ticksUntil_64 : decode cX8_ticksUntil 64 = .ok (.getfield 35, 3) := by decide +kernel
theorem dX8_ticksUntil_67 : decode cX8_ticksUntil 67 = .ok (.getfield 222, 3) := by decide +kernel
theorem dX8_ticksUntil_70 : decode cX8_ticksUntil 70 = .ok (.iload_n 1, 1) := by decide +kernel
theorem dX8_ticksUntil_71 : decode cX8_ticksUntil 71 = .ok (.iconst 3, 1) := by decide +kernel
theorem dX8_ticksUntil_72 : decode cX8_ticksUntil 72 = .ok (.invokevirtual 171, 3) := by decide +kernel
theorem dX8_ticksUntil_75 : decode cX8_ticksUntil 75 = .ok (.iload_n 2, 1) := by decide +kernel
theorem dX8_ticksUntil_76 : decode cX8_ticksUntil 76 = .ok (.if_icmp .ne 6, 3) := by decide +kernel
theorem dX8_ticksUntil_79 : decode cX8_ticksUntil 79 = .ok (.iload 5, 2) := by decide +kernel
theorem dX8_ticksUntil_81 : decode cX8_ticksUntil 81 = .ok (.ireturn, 1) := by decide +kernel
theorem dX8_ticksUntil_82 : decode cX8_ticksUntil 82 = .ok (.iinc 5 1, 3) := by decide +kernel
theorem dX8_ticksUntil_85 : decode cX8_ticksUntil 85 = .ok (.goto (-41), 3) := by decide +kernel
theorem dX8_ticksUntil_88 : decode cX8_ticksUntil 88 = .ok (.iconst (-1), 1) := by decide +kernel
theorem dX8_ticksUntil_89 : decode cX8_ticksUntil 89 = .ok (.ireturn, 1) := by decide +kernel
theorem dX8_metIn_0 : decode cX8_metIn 0 = .ok (.aload_n 0, 1) := by decide +kernel
theorem dX8_metIn_1 : decode cX8_metIn 1 = .ok (.iload_n 1, 1) := by decide +kernel
theorem dX8_metIn_2 : decode cX8_metIn 2 = .ok (.invokevirtual 217, 3) := by decide +kernel
theorem dX8_metIn_5 : decode cX8_metIn 5 = .ok (.aload_n 0, 1) := by decide +kernel
theorem dX8_metIn_6 : decode cX8_metIn 6 = .ok (.iload_n 2, 1) := by decide +kernel
theorem dX8_metIn_7 : decode cX8_metIn 7 = .ok (.invokevirtual 275, 3) := by decide +kernel
theorem dX8_metIn_10 : decode cX8_metIn 10 = .ok (.aload_n 0, 1) := by decide +kernel
theorem dX8_metIn_11 : decode cX8_metIn 11 = .ok (.iload_n 1, 1) := by decide +kernel
theorem dX8_metIn_12 : decode cX8_metIn 12 = .ok (.iconst 1, 1) := by decide +kernel
theorem dX8_metIn_13 : decode cX8_metIn 13 = .ok (.iload_n 2, 1) := by decide +kernel
theorem dX8_metIn_14 : decode cX8_metIn 14 = .ok (.invokevirtual 338, 3) := by decide +kernel
theorem dX8_metIn_17 : decode cX8_metIn 17 = .ok (.ireturn, 1) := by decide +kernel
theorem dX8_refusedIn_0 : decode cX8_refusedIn 0 = .ok (.aload_n 0, 1) := by decide +kernel
theorem dX8_refusedIn_1 : decode cX8_refusedIn 1 = .ok (.iload_n 1, 1) := by decide +kernel
theorem dX8_refusedIn_2 : decode cX8_refusedIn 2 = .ok (.invokevirtual 217, 3) := by decide +kernel
theorem dX8_refusedIn_5 : decode cX8_refusedIn 5 = .ok (.aload_n 0, 1) := by decide +kernel
theorem dX8_refusedIn_6 : decode cX8_refusedIn 6 = .ok (.iload_n 2, 1) := by decide +kernel
theorem dX8_refusedIn_7 : decode cX8_refusedIn 7 = .ok (.invokevirtual 275, 3) := by decide +kernel
theorem dX8_refusedIn_10 : decode cX8_refusedIn 10 = .ok (.aload_n 0, 1) := by decide +kernel
theorem dX8_refusedIn_11 : decode cX8_refusedIn 11 = .ok (.iload_n 1, 1) := by decide +kernel
theorem dX8_refusedIn_12 : decode cX8_refusedIn 12 = .ok (.iconst 2, 1) := by decide +kernel
theorem dX8_refusedIn_13 : decode cX8_refusedIn 13 = .ok (.iload_n 2, 1) := by decide +kernel
theorem dX8_refusedIn_14 : decode cX8_refusedIn 14 = .ok (.invokevirtual 338, 3) := by decide +kernel
theorem dX8_refusedIn_17 : decode cX8_refusedIn 17 = .ok (.ireturn, 1) := by decide +kernel
theorem dX8_wouldFine_0 : decode cX8_wouldFine 0 = .ok (.aload_n 0, 1) := by decide +kernel
theorem dX8_wouldFine_1 : decode cX8_wouldFine 1 = .ok (.iload_n 1, 1) := by decide +kernel
theorem dX8_wouldFine_2 : decode cX8_wouldFine 2 = .ok (.invokevirtual 186, 3) := by decide +kernel
theorem dX8_wouldFine_5 : decode cX8_wouldFine 5 = .ok (.aload_n 0, 1) := by decide +kernel
theorem dX8_wouldFine_6 : decode cX8_wouldFine 6 = .ok (.invokevirtual 341, 3) := by decide +kernel
theorem dX8_wouldFine_9 : decode cX8_wouldFine 9 = .ok (.iconst (-1), 1) := by decide +kernel
theorem dX8_wouldFine_10 : decode cX8_wouldFine 10 = .ok (.if_icmp .ne 5, 3) := by decide +kernel
theorem dX8_wouldFine_13 : decode cX8_wouldFine 13 = .ok (.iconst 0, 1) := by decide +kernel
theorem dX8_wouldFine_14 : decode cX8_wouldFine 14 = .ok (.ireturn, 1) := by decide +kernel
theorem dX8_wouldFine_15 : decode cX8_wouldFine 15 = .ok (.aload_n 0, 1) := by decide +kernel
theorem dX8_wouldFine_16 : decode cX8_wouldFine 16 = .ok (.getfield 35, 3) := by decide +kernel
theorem dX8_wouldFine_19 : decode cX8_wouldFine 19 = .ok (.aload_n 0, 1) := by decide +kernel
theorem dX8_wouldFine_20 : decode cX8_wouldFine 20 = .ok (.getfield 31, 3) := by decide +kernel
theorem dX8_wouldFine_23 : decode cX8_wouldFine 23 = .ok (.invokevirtual 90, 3) := by decide +kernel
theorem dX8_wouldFine_26 : decode cX8_wouldFine 26 = .ok (.aload_n 0, 1) := by decide +kernel
theorem dX8_wouldFine_27 : decode cX8_wouldFine 27 = .ok (.invokevirtual 344, 3) := by decide +kernel
theorem dX8_wouldFine_30 : decode cX8_wouldFine 30 = .ok (.aload_n 0, 1) := by decide +kernel
theorem dX8_wouldFine_31 : decode cX8_wouldFine 31 = .ok (.getfield 35, 3) := by decide +kernel
theorem dX8_wouldFine_34 : decode cX8_wouldFine 34 = .ok (.getfield 195, 3) := by decide +kernel
theorem dX8_wouldFine_37 : decode cX8_wouldFine 37 = .ok (.iload_n 1, 1) := by decide +kernel
theorem dX8_wouldFine_38 : decode cX8_wouldFine 38 = .ok (.iconst 5, 1) := by decide +kernel
theorem dX8_wouldFine_39 : decode cX8_wouldFine 39 = .ok (.invokevirtual 171, 3) := by decide +kernel
theorem dX8_wouldFine_42 : decode cX8_wouldFine 42 = .ok (.ireturn, 1) := by decide +kernel
theorem dX8_wouldPay_0 : decode cX8_wouldPay 0 = .ok (.aload_n 0, 1) := by decide +kernel
theorem dX8_wouldPay_1 : decode cX8_wouldPay 1 = .ok (.iload_n 1, 1) := by decide +kernel
theorem dX8_wouldPay_2 : decode cX8_wouldPay 2 = .ok (.invokevirtual 165, 3) := by decide +kernel
theorem dX8_wouldPay_5 : decode cX8_wouldPay 5 = .ok (.aload_n 0, 1) := by decide +kernel
theorem dX8_wouldPay_6 : decode cX8_wouldPay 6 = .ok (.invokevirtual 341, 3) := by decide +kernel
theorem dX8_wouldPay_9 : decode cX8_wouldPay 9 = .ok (.iconst (-1), 1) := by decide +kernel
theorem dX8_wouldPay_10 : decode cX8_wouldPay 10 = .ok (.if_icmp .ne 5, 3) := by decide +kernel
theorem dX8_wouldPay_13 : decode cX8_wouldPay 13 = .ok (.iconst 0, 1) := by decide +kernel
theorem dX8_wouldPay_14 : decode cX8_wouldPay 14 = .ok (.ireturn, 1) := by decide +kernel
theorem dX8_wouldPay_15 : decode cX8_wouldPay 15 = .ok (.aload_n 0, 1) := by decide +kernel
theorem dX8_wouldPay_16 : decode cX8_wouldPay 16 = .ok (.getfield 35, 3) := by decide +kernel
theorem dX8_wouldPay_19 : decode cX8_wouldPay 19 = .ok (.aload_n 0, 1) := by decide +kernel
theorem dX8_wouldPay_20 : decode cX8_wouldPay 20 = .ok (.getfield 31, 3) := by decide +kernel
theorem dX8_wouldPay_23 : decode cX8_wouldPay 23 = .ok (.invokevirtual 90, 3) := by decide +kernel
theorem dX8_wouldPay_26 : decode cX8_wouldPay 26 = .ok (.aload_n 0, 1) := by decide +kernel
theorem dX8_wouldPay_27 : decode cX8_wouldPay 27 = .ok (.invokevirtual 344, 3) := by decide +kernel
theorem dX8_wouldPay_30 : decode cX8_wouldPay 30 = .ok (.aload_n 0, 1) := by decide +kernel
theorem dX8_wouldPay_31 : decode cX8_wouldPay 31 = .ok (.getfield 35, 3) := by decide +kernel
theorem dX8_wouldPay_34 : decode cX8_wouldPay 34 = .ok (.iload_n 1, 1) := by decide +kernel
theorem dX8_wouldPay_35 : decode cX8_wouldPay 35 = .ok (.invokevirtual 347, 3) := by decide +kernel
theorem dX8_wouldPay_38 : decode cX8_wouldPay 38 = .ok (.ireturn, 1) := by decide +kernel
theorem dX8_freeIn_0 : decode cX8_freeIn 0 = .ok (.aload_n 0, 1) := by decide +kernel
theorem dX8_freeIn_1 : decode cX8_freeIn 1 = .ok (.iload_n 1, 1) := by decide +kernel
theorem dX8_freeIn_2 : decode cX8_freeIn 2 = .ok (.invokevirtual 275, 3) := by decide +kernel
theorem dX8_freeIn_5 : decode cX8_freeIn 5 = .ok (.aload_n 0, 1) := by decide +kernel
theorem dX8_freeIn_6 : decode cX8_freeIn 6 = .ok (.getfield 35, 3) := by decide +kernel
theorem dX8_freeIn_9 : decode cX8_freeIn 9 = .ok (.aload_n 0, 1) := by decide +kernel
theorem dX8_freeIn_10 : decode cX8_freeIn 10 = .ok (.getfield 31, 3) := by decide +kernel
theorem dX8_freeIn_13 : decode cX8_freeIn 13 = .ok (.invokevirtual 90, 3) := by decide +kernel
theorem dX8_freeIn_16 : decode cX8_freeIn 16 = .ok (.aload_n 0, 1) := by decide +kernel
theorem dX8_freeIn_17 : decode cX8_freeIn 17 = .ok (.iload_n 1, 1) := by decide +kernel
theorem dX8_freeIn_18 : decode cX8_freeIn 18 = .ok (.invokevirtual 350, 3) := by decide +kernel
theorem dX8_freeIn_21 : decode cX8_freeIn 21 = .ok (.pop, 1) := by decide +kernel
theorem dX8_freeIn_22 : decode cX8_freeIn 22 = .ok (.aload_n 0, 1) := by decide +kernel
theorem dX8_freeIn_23 : decode cX8_freeIn 23 = .ok (.getfield 35, 3) := by decide +kernel
theorem dX8_freeIn_26 : decode cX8_freeIn 26 = .ok (.getfield 129, 3) := by decide +kernel
theorem dX8_freeIn_29 : decode cX8_freeIn 29 = .ok (.ireturn, 1) := by decide +kernel
theorem dX8_processIn_0 : decode cX8_processIn 0 = .ok (.aload_n 0, 1) := by decide +kernel
theorem dX8_processIn_1 : decode cX8_processIn 1 = .ok (.iload_n 1, 1) := by decide +kernel
theorem dX8_processIn_2 : decode cX8_processIn 2 = .ok (.invokevirtual 165, 3) := by decide +kernel
theorem dX8_processIn_5 : decode cX8_processIn 5 = .ok (.aload_n 0, 1) := by decide +kernel
theorem dX8_processIn_6 : decode cX8_processIn 6 = .ok (.iload_n 2, 1) := by decide +kernel
theorem dX8_processIn_7 : decode cX8_processIn 7 = .ok (.invokevirtual 275, 3) := by decide +kernel
theorem dX8_processIn_10 : decode cX8_processIn 10 = .ok (.iload_n 3, 1) := by decide +kernel
theorem dX8_processIn_11 : decode cX8_processIn 11 = .ok (.ifCond .lt 8, 3) := by decide +kernel
theorem dX8_processIn_14 : decode cX8_processIn 14 = .ok (.iload_n 3, 1) := by decide +kernel
theorem dX8_processIn_15 : decode cX8_processIn 15 = .ok (.iconst 2, 1) := by decide +kernel
theorem dX8_processIn_16 : decode cX8_processIn 16 = .ok (.if_icmp .le 14, 3) := by decide +kernel
theorem dX8_processIn_19 : decode cX8_processIn 19 = .ok (.new 234, 3) := by decide +kernel
theorem dX8_processIn_22 : decode cX8_processIn 22 = .ok (.dup, 1) := by decide +kernel
theorem dX8_processIn_23 : decode cX8_processIn 23 = .ok (.ldc_w 353, 3) := by decide +kernel
theorem dX8_processIn_26 : decode cX8_processIn 26 = .ok (.invokespecial 238, 3) := by decide +kernel
theorem dX8_processIn_29 : decode cX8_processIn 29 = .ok (.athrow, 1) := by decide +kernel
theorem dX8_processIn_30 : decode cX8_processIn 30 = .ok (.aload_n 0, 1) := by decide +kernel
theorem dX8_processIn_31 : decode cX8_processIn 31 = .ok (.getfield 35, 3) := by decide +kernel
theorem dX8_processIn_34 : decode cX8_processIn 34 = .ok (.aload_n 0, 1) := by decide +kernel
theorem dX8_processIn_35 : decode cX8_processIn 35 = .ok (.getfield 31, 3) := by decide +kernel
theorem dX8_processIn_38 : decode cX8_processIn 38 = .ok (.invokevirtual 90, 3) := by decide +kernel
theorem dX8_processIn_41 : decode cX8_processIn 41 = .ok (.aload_n 0, 1) := by decide +kernel
theorem dX8_processIn_42 : decode cX8_processIn 42 = .ok (.iload_n 2, 1) := by decide +kernel
theorem dX8_processIn_43 : decode cX8_processIn 43 = .ok (.invokevirtual 350, 3) := by decide +kernel
theorem dX8_processIn_46 : decode cX8_processIn 46 = .ok (.pop, 1) := by decide +kernel
theorem dX8_processIn_47 : decode cX8_processIn 47 = .ok (.iload_n 3, 1) := by decide +kernel
theorem dX8_processIn_48 : decode cX8_processIn 48 = .ok (.iconst 2, 1) := by decide +kernel
theorem dX8_processIn_49 : decode cX8_processIn 49 = .ok (.if_icmp .ne 12, 3) := by decide +kernel
theorem dX8_processIn_52 : decode cX8_processIn 52 = .ok (.aload_n 0, 1) := by decide +kernel
theorem dX8_processIn_53 : decode cX8_processIn 53 = .ok (.getfield 35, 3) := by decide +kernel
theorem dX8_processIn_56 : decode cX8_processIn 56 = .ok (.iload_n 1, 1) := by decide +kernel
theorem dX8_processIn_57 : decode cX8_processIn 57 = .ok (.invokevirtual 176, 3) := by decide +kernel
theorem dX8_processIn_60 : decode cX8_processIn 60 = .ok (.ireturn, 1) := by decide +kernel
theorem dX8_processIn_61 : decode cX8_processIn 61 = .ok (.aload_n 0, 1) := by decide +kernel
theorem dX8_processIn_62 : decode cX8_processIn 62 = .ok (.getfield 35, 3) := by decide +kernel
theorem dX8_processIn_65 : decode cX8_processIn 65 = .ok (.getfield 168, 3) := by decide +kernel
theorem dX8_processIn_68 : decode cX8_processIn 68 = .ok (.iload_n 1, 1) := by decide +kernel
theorem dX8_processIn_69 : decode cX8_processIn 69 = .ok (.iload_n 3, 1) := by decide +kernel
theorem dX8_processIn_70 : decode cX8_processIn 70 = .ok (.ifCond .ne 7, 3) := by decide +kernel
theorem dX8_processIn_73 : decode cX8_processIn 73 = .ok (.iconst 0, 1) := by decide +kernel
theorem dX8_processIn_74 : decode cX8_processIn 74 = .ok (.goto 4, 3) := by decide +kernel
theorem dX8_processIn_77 : decode cX8_processIn 77 = .ok (.iconst 1, 1) := by decide +kernel
theorem dX8_processIn_78 : decode cX8_processIn 78 = .ok (.invokevirtual 171, 3) := by decide +kernel
theorem dX8_processIn_81 : decode cX8_processIn 81 = .ok (.ireturn, 1) := by decide +kernel
theorem dX8_bestOrder_0 : decode cX8_bestOrder 0 = .ok (.aload_n 0, 1) := by decide +kernel
theorem dX8_bestOrder_1 : decode cX8_bestOrder 1 = .ok (.iload_n 1, 1) := by decide +kernel
theorem dX8_bestOrder_2 : decode cX8_bestOrder 2 = .ok (.invokevirtual 275, 3) := by decide +kernel
theorem dX8_bestOrder_5 : decode cX8_bestOrder 5 = .ok (.iconst 0, 1) := by decide +kernel
theorem dX8_bestOrder_6 : decode cX8_bestOrder 6 = .ok (.istore_n 2, 1) := by decide +kernel
theorem dX8_bestOrder_7 : decode cX8_bestOrder 7 = .ok (.iconst (-1), 1) := by decide +kernel
theorem dX8_bestOrder_8 : decode cX8_bestOrder 8 = .ok (.istore_n 3, 1) := by decide +kernel
theorem dX8_bestOrder_9 : decode cX8_bestOrder 9 = .ok (.iconst 0, 1) := by decide +kernel
theorem dX8_bestOrder_10 : decode cX8_bestOrder 10 = .ok (.istore 4, 2) := by decide +kernel
theorem dX8_bestOrder_12 : decode cX8_bestOrder 12 = .ok (.iload 4, 2) := by decide +kernel
theorem dX8_bestOrder_14 : decode cX8_bestOrder 14 = .ok (.iconst 2, 1) := by decide +kernel
theorem dX8_bestOrder_15 : decode cX8_bestOrder 15 = .ok (.if_icmp .gt 48, 3) := by decide +kernel
theorem dX8_bestOrder_18 : decode cX8_bestOrder 18 = .ok (.aload_n 0, 1) := by decide +kernel
theorem dX8_bestOrder_19 : decode cX8_bestOrder 19 = .ok (.getfield 35, 3) := by decide +kernel
theorem dX8_bestOrder_22 : decode cX8_bestOrder 22 = .ok (.aload_n 0, 1) := by decide +kernel
theorem dX8_bestOrder_23 : decode cX8_bestOrder 23 = .ok (.getfield 31, 3) := by decide +kernel
theorem dX8_bestOrder_26 : decode cX8_bestOrder 26 = .ok (.invokevirtual 90, 3) := by decide +kernel
theorem dX8_bestOrder_29 : decode cX8_bestOrder 29 = .ok (.aload_n 0, 1) := by decide +kernel
theorem dX8_bestOrder_30 : decode cX8_bestOrder 30 = .ok (.getfield 35, 3) := by decide +kernel
theorem dX8_bestOrder_33 : decode cX8_bestOrder 33 = .ok (.iload 4, 2) := by decide +kernel
theorem dX8_bestOrder_35 : decode cX8_bestOrder 35 = .ok (.putfield 111, 3) := by decide +kernel
theorem dX8_bestOrder_38 : decode cX8_bestOrder 38 = .ok (.aload_n 0, 1) := by decide +kernel
theorem dX8_bestOrder_39 : decode cX8_bestOrder 39 = .ok (.iload_n 1, 1) := by decide +kernel
theorem dX8_bestOrder_40 : decode cX8_bestOrder 40 = .ok (.invokevirtual 350, 3) := by decide +kernel
theorem dX8_bestOrder_43 : decode cX8_bestOrder 43 = .ok (.istore 5, 2) := by decide +kernel
theorem dX8_bestOrder_45 : decode cX8_bestOrder 45 = .ok (.iload 5, 2) := by decide +kernel
theorem dX8_bestOrder_47 : decode cX8_bestOrder 47 = .ok (.iload_n 3, 1) := by decide +kernel
theorem dX8_bestOrder_48 : decode cX8_bestOrder 48 = .ok (.if_icmp .le 9, 3) := by decide +kernel
theorem dX8_bestOrder_51 : decode cX8_bestOrder 51 = .ok (.iload 5, 2) := by decide +kernel
theorem dX8_bestOrder_53 : decode cX8_bestOrder 53 = .ok (.istore_n 3, 1) := by decide +kernel
theorem dX8_bestOrder_54 : decode cX8_bestOrder 54 = .ok (.iload 4, 2) := by decide +kernel
theorem dX8_bestOrder_56 : decode cX8_bestOrder 56 = .ok (.istore_n 2, 1) := by decide +kernel
theorem dX8_bestOrder_57 : decode cX8_bestOrder 57 = .ok (.iinc 4 1, 3) := by decide +kernel
theorem dX8_bestOrder_60 : decode cX8_bestOrder 60 = .ok (.goto (-48), 3) := by decide +kernel
theorem dX8_bestOrder_63 : decode cX8_bestOrder 63 = .ok (.iload_n 2, 1) := by decide +kernel
theorem dX8_bestOrder_64 : decode cX8_bestOrder 64 = .ok (.ireturn, 1) := by decide +kernel
theorem dX8_helps_0 : decode cX8_helps 0 = .ok (.aload_n 0, 1) := by decide +kernel
theorem dX8_helps_1 : decode cX8_helps 1 = .ok (.iload_n 1, 1) := by decide +kernel
theorem dX8_helps_2 : decode cX8_helps 2 = .ok (.invokevirtual 186, 3) := by decide +kernel
theorem dX8_helps_5 : decode cX8_helps 5 = .ok (.aload_n 0, 1) := by decide +kernel
theorem dX8_helps_6 : decode cX8_helps 6 = .ok (.iload_n 2, 1) := by decide +kernel
theorem dX8_helps_7 : decode cX8_helps 7 = .ok (.invokevirtual 217, 3) := by decide +kernel
theorem dX8_helps_10 : decode cX8_helps 10 = .ok (.aload_n 0, 1) := by decide +kernel
theorem dX8_helps_11 : decode cX8_helps 11 = .ok (.getfield 31, 3) := by decide +kernel
theorem dX8_helps_14 : decode cX8_helps 14 = .ok (.iload_n 2, 1) := by decide +kernel
theorem dX8_helps_15 : decode cX8_helps 15 = .ok (.invokevirtual 298, 3) := by decide +kernel
theorem dX8_helps_18 : decode cX8_helps 18 = .ok (.ifCond .eq 11, 3) := by decide +kernel
theorem dX8_helps_21 : decode cX8_helps 21 = .ok (.aload_n 0, 1) := by decide +kernel
theorem dX8_helps_22 : decode cX8_helps 22 = .ok (.invokevirtual 341, 3) := by decide +kernel
theorem dX8_helps_25 : decode cX8_helps 25 = .ok (.iconst (-1), 1) := by decide +kernel
theorem dX8_helps_26 : decode cX8_helps 26 = .ok (.if_icmp .ne 5, 3) := by decide +kernel
theorem dX8_helps_29 : decode cX8_helps 29 = .ok (.iconst (-1), 1) := by decide +kernel
theorem dX8_helps_30 : decode cX8_helps 30 = .ok (.ireturn, 1) := by decide +kernel
theorem dX8_helps_31 : decode cX8_helps 31 = .ok (.bipush 64, 2) := by decide +kernel
theorem dX8_helps_33 : decode cX8_helps 33 = .ok (.aload_n 0, 1) := by decide +kernel
theorem dX8_helps_34 : decode cX8_helps 34 = .ok (.getfield 31, 3) := by decide +kernel
theorem dX8_helps_37 : decode cX8_helps 37 = .ok (.getfield 195, 3) := by decide +kernel
theorem dX8_helps_40 : decode cX8_helps 40 = .ok (.iload_n 1, 1) := by decide +kernel
theorem dX8_helps_41 : decode cX8_helps 41 = .ok (.iconst 1, 1) := by decide +kernel
theorem dX8_helps_42 : decode cX8_helps 42 = .ok (.invokevirtual 171, 3) := by decide +kernel
theorem dX8_helps_45 : decode cX8_helps 45 = .ok (.invokestatic 355, 3) := by decide +kernel
theorem dX8_helps_48 : decode cX8_helps 48 = .ok (.istore_n 3, 1) := by decide +kernel
theorem dX8_helps_49 : decode cX8_helps 49 = .ok (.iconst 0, 1) := by decide +kernel
theorem dX8_helps_50 : decode cX8_helps 50 = .ok (.istore 4, 2) := by decide +kernel
theorem dX8_helps_52 : decode cX8_helps 52 = .ok (.iload 4, 2) := by decide +kernel
theorem dX8_helps_54 : decode cX8_helps 54 = .ok (.iload_n 3, 1) := by decide +kernel
theorem dX8_helps_55 : decode cX8_helps 55 = .ok (.if_icmp .gt 53, 3) := by decide +kernel
theorem dX8_helps_58 : decode cX8_helps 58 = .ok (.aload_n 0, 1) := by decide +kernel
theorem dX8_helps_59 : decode cX8_helps 59 = .ok (.getfield 35, 3) := by decide +kernel
theorem dX8_helps_62 : decode cX8_helps 62 = .ok (.aload_n 0, 1) := by decide +kernel
theorem dX8_helps_63 : decode cX8_helps 63 = .ok (.getfield 31, 3) := by decide +kernel
theorem dX8_helps_66 : decode cX8_helps 66 = .ok (.invokevirtual 90, 3) := by decide +kernel
theorem dX8_helps_69 : decode cX8_helps 69 = .ok (.aload_n 0, 1) := by decide +kernel
theorem dX8_helps_70 : decode cX8_helps 70 = .ok (.getfield 35, 3) := by decide +kernel
theorem dX8_helps_73 : decode cX8_helps 73 = .ok (.iload_n 1, 1) := by decide +kernel
theorem dX8_helps_74 : decode cX8_helps 74 = .ok (.iload 4, 2) := by decide +kernel
theorem dX8_helps_76 : decode cX8_helps 76 = .ok (.invokevirtual 309, 3) := by decide +kernel
theorem dX8_helps_79 : decode cX8_helps 79 = .ok (.aload_n 0, 1) := by decide +kernel
theorem dX8_helps_80 : decode cX8_helps 80 = .ok (.invokevirtual 344, 3) := by decide +kernel
theorem dX8_helps_83 : decode cX8_helps 83 = .ok (.aload_n 0, 1) := by decide +kernel
theorem dX8_helps_84 : decode cX8_helps 84 = .ok (.getfield 35, 3) := by decide +kernel
theorem dX8_helps_87 : decode cX8_helps 87 = .ok (.getfield 222, 3) := by decide +kernel
theorem dX8_helps_90 : decode cX8_helps 90 = .ok (.iload_n 2, 1) := by decide +kernel
theorem dX8_helps_91 : decode cX8_helps 91 = .ok (.iconst 3, 1) := by decide +kernel
theorem dX8_helps_92 : decode cX8_helps 92 = .ok (.invokevirtual 171, 3) := by decide +kernel
theorem dX8_helps_95 : decode cX8_helps 95 = .ok (.iconst 1, 1) := by decide +kernel
theorem dX8_helps_96 : decode cX8_helps 96 = .ok (.if_icmp .ne 6, 3) := by decide +kernel
theorem dX8_helps_99 : decode cX8_helps 99 = .ok (.iload 4, 2) := by decide +kernel
theorem dX8_helps_101 : decode cX8_helps 101 = .ok (.ireturn, 1) := by decide +kernel
theorem dX8_helps_102 : decode cX8_helps 102 = .ok (.iinc 4 1, 3) := by decide +kernel
theorem dX8_helps_105 : decode cX8_helps 105 = .ok (.goto (-53), 3) := by decide +kernel
theorem dX8_helps_108 : decode cX8_helps 108 = .ok (.iconst (-1), 1) := by decide +kernel
theorem dX8_helps_109 : decode cX8_helps 109 = .ok (.ireturn, 1) := by decide +kernel
theorem dX8_wouldAppeal_0 : decode cX8_wouldAppeal 0 = .ok (.aload_n 0, 1) := by decide +kernel
theorem dX8_wouldAppeal_1 : decode cX8_wouldAppeal 1 = .ok (.iload_n 1, 1) := by decide +kernel
theorem dX8_wouldAppeal_2 : decode cX8_wouldAppeal 2 = .ok (.invokevirtual 239, 3) := by decide +kernel
theorem dX8_wouldAppeal_5 : decode cX8_wouldAppeal 5 = .ok (.aload_n 0, 1) := by decide +kernel
theorem dX8_wouldAppeal_6 : decode cX8_wouldAppeal 6 = .ok (.getfield 31, 3) := by decide +kernel
theorem dX8_wouldAppeal_9 : decode cX8_wouldAppeal 9 = .ok (.iload_n 1, 1) := by decide +kernel
theorem dX8_wouldAppeal_10 : decode cX8_wouldAppeal 10 = .ok (.aload_n 0, 1) := by decide +kernel
theorem dX8_wouldAppeal_11 : decode cX8_wouldAppeal 11 = .ok (.getfield 24, 3) := by decide +kernel
theorem dX8_wouldAppeal_14 : decode cX8_wouldAppeal 14 = .ok (.getfield 126, 3) := by decide +kernel
theorem dX8_wouldAppeal_17 : decode cX8_wouldAppeal 17 = .ok (.invokevirtual 323, 3) := by decide +kernel
theorem dX8_wouldAppeal_20 : decode cX8_wouldAppeal 20 = .ok (.ifCond .ne 5, 3) := by decide +kernel
theorem dX8_wouldAppeal_23 : decode cX8_wouldAppeal 23 = .ok (.iconst (-1), 1) := by decide +kernel
theorem dX8_wouldAppeal_24 : decode cX8_wouldAppeal 24 = .ok (.ireturn, 1) := by decide +kernel
theorem dX8_wouldAppeal_25 : decode cX8_wouldAppeal 25 = .ok (.aload_n 0, 1) := by decide +kernel
theorem dX8_wouldAppeal_26 : decode cX8_wouldAppeal 26 = .ok (.getfield 31, 3) := by decide +kernel
theorem dX8_wouldAppeal_29 : decode cX8_wouldAppeal 29 = .ok (.iload_n 1, 1) := by decide +kernel
theorem dX8_wouldAppeal_30 : decode cX8_wouldAppeal 30 = .ok (.aload_n 0, 1) := by decide +kernel
theorem dX8_wouldAppeal_31 : decode cX8_wouldAppeal 31 = .ok (.getfield 31, 3) := by decide +kernel
theorem dX8_wouldAppeal_34 : decode cX8_wouldAppeal 34 = .ok (.iload_n 1, 1) := by decide +kernel
theorem dX8_wouldAppeal_35 : decode cX8_wouldAppeal 35 = .ok (.invokevirtual 245, 3) := by decide +kernel
theorem dX8_wouldAppeal_38 : decode cX8_wouldAppeal 38 = .ok (.invokevirtual 358, 3) := by decide +kernel
theorem dX8_wouldAppeal_41 : decode cX8_wouldAppeal 41 = .ok (.ireturn, 1) := by decide +kernel
theorem dX8_printProcess_0 : decode cX8_printProcess 0 = .ok (.aload_n 0, 1) := by decide +kernel
theorem dX8_printProcess_1 : decode cX8_printProcess 1 = .ok (.iload_n 1, 1) := by decide +kernel
theorem dX8_printProcess_2 : decode cX8_printProcess 2 = .ok (.invokevirtual 165, 3) := by decide +kernel
theorem dX8_printProcess_5 : decode cX8_printProcess 5 = .ok (.aload_n 0, 1) := by decide +kernel
theorem dX8_printProcess_6 : decode cX8_printProcess 6 = .ok (.getfield 18, 3) := by decide +kernel
theorem dX8_printProcess_9 : decode cX8_printProcess 9 = .ok (.iconst 0, 1) := by decide +kernel
theorem dX8_printProcess_10 : decode cX8_printProcess 10 = .ok (.putfield 75, 3) := by decide +kernel
theorem dX8_printProcess_13 : decode cX8_printProcess 13 = .ok (.aload_n 0, 1) := by decide +kernel
theorem dX8_printProcess_14 : decode cX8_printProcess 14 = .ok (.getfield 24, 3) := by decide +kernel
theorem dX8_printProcess_17 : decode cX8_printProcess 17 = .ok (.iload_n 1, 1) := by decide +kernel
theorem dX8_printProcess_18 : decode cX8_printProcess 18 = .ok (.aload_n 0, 1) := by decide +kernel
theorem dX8_printProcess_19 : decode cX8_printProcess 19 = .ok (.getfield 18, 3) := by decide +kernel
theorem dX8_printProcess_22 : decode cX8_printProcess 22 = .ok (.invokevirtual 361, 3) := by decide +kernel
theorem dX8_printProcess_25 : decode cX8_printProcess 25 = .ok (.aload_n 0, 1) := by decide +kernel
theorem dX8_printProcess_26 : decode cX8_printProcess 26 = .ok (.getfield 18, 3) := by decide +kernel
theorem dX8_printProcess_29 : decode cX8_printProcess 29 = .ok (.bipush 32, 2) := by decide +kernel
theorem dX8_printProcess_31 : decode cX8_printProcess 31 = .ok (.invokevirtual 365, 3) := by decide +kernel
theorem dX8_printProcess_34 : decode cX8_printProcess 34 = .ok (.aload_n 0, 1) := by decide +kernel
theorem dX8_printProcess_35 : decode cX8_printProcess 35 = .ok (.getfield 18, 3) := by decide +kernel
theorem dX8_printProcess_38 : decode cX8_printProcess 38 = .ok (.aload_n 0, 1) := by decide +kernel
theorem dX8_printProcess_39 : decode cX8_printProcess 39 = .ok (.getfield 31, 3) := by decide +kernel
theorem dX8_printProcess_42 : decode cX8_printProcess 42 = .ok (.getfield 168, 3) := by decide +kernel
theorem dX8_printProcess_45 : decode cX8_printProcess 45 = .ok (.iload_n 1, 1) := by decide +kernel
theorem dX8_printProcess_46 : decode cX8_printProcess 46 = .ok (.iconst 0, 1) := by decide +kernel
theorem dX8_printProcess_47 : decode cX8_printProcess 47 = .ok (.invokevirtual 171, 3) := by decide +kernel
theorem dX8_printProcess_50 : decode cX8_printProcess 50 = .ok (.invokevirtual 368, 3) := by decide +kernel
theorem dX8_printProcess_53 : decode cX8_printProcess 53 = .ok (.aload_n 0, 1) := by decide +kernel
theorem dX8_printProcess_54 : decode cX8_printProcess 54 = .ok (.getfield 18, 3) := by decide +kernel
theorem dX8_printProcess_57 : decode cX8_printProcess 57 = .ok (.bipush 32, 2) := by decide +kernel
theorem dX8_printProcess_59 : decode cX8_printProcess 59 = .ok (.invokevirtual 365, 3) := by decide +kernel
theorem dX8_printProcess_62 : decode cX8_printProcess 62 = .ok (.aload_n 0, 1) := by decide +kernel
theorem dX8_printProcess_63 : decode cX8_printProcess 63 = .ok (.getfield 18, 3) := by decide +kernel
theorem dX8_printProcess_66 : decode cX8_printProcess 66 = .ok (.aload_n 0, 1) := by decide +kernel
theorem dX8_printProcess_67 : decode cX8_printProcess 67 = .ok (.getfield 31, 3) := by decide +kernel
theorem dX8_printProcess_70 : decode cX8_printProcess 70 = .ok (.getfield 168, 3) := by decide +kernel
theorem dX8_printProcess_73 : decode cX8_printProcess 73 = .ok (.iload_n 1, 1) := by decide +kernel
theorem dX8_printProcess_74 : decode cX8_printProcess 74 = .ok (.iconst 1, 1) := by decide +kernel
theorem dX8_printProcess_75 : decode cX8_printProcess 75 = .ok (.invokevirtual 171, 3) := by decide +kernel
theorem dX8_printProcess_78 : decode cX8_printProcess 78 = .ok (.invokevirtual 368, 3) := by decide +kernel
theorem dX8_printProcess_81 : decode cX8_printProcess 81 = .ok (.aload_n 0, 1) := by decide +kernel
theorem dX8_printProcess_82 : decode cX8_printProcess 82 = .ok (.getfield 31, 3) := by decide +kernel
theorem dX8_printProcess_85 : decode cX8_printProcess 85 = .ok (.iload_n 1, 1) := by decide +kernel
theorem dX8_printProcess_86 : decode cX8_printProcess 86 = .ok (.aload_n 0, 1) := by decide +kernel
theorem dX8_printProcess_87 : decode cX8_printProcess 87 = .ok (.getfield 18, 3) := by decide +kernel
theorem dX8_printProcess_90 : decode cX8_printProcess 90 = .ok (.invokevirtual 371, 3) := by decide +kernel
theorem dX8_printProcess_93 : decode cX8_printProcess 93 = .ok (.aload_n 0, 1) := by decide +kernel
theorem dX8_printProcess_94 : decode cX8_printProcess 94 = .ok (.getfield 18, 3) := by decide +kernel
theorem dX8_printProcess_97 : decode cX8_printProcess 97 = .ok (.getfield 75, 3) := by decide +kernel
theorem dX8_printProcess_100 : decode cX8_printProcess 100 = .ok (.ireturn, 1) := by decide +kernel
theorem dX8_outputByte_0 : decode cX8_outputByte 0 = .ok (.aload_n 0, 1) := by decide +kernel
theorem dX8_outputByte_1 : decode cX8_outputByte 1 = .ok (.getfield 18, 3) := by decide +kernel
theorem dX8_outputByte_4 : decode cX8_outputByte 4 = .ok (.iload_n 1, 1) := by decide +kernel
theorem dX8_outputByte_5 : decode cX8_outputByte 5 = .ok (.invokevirtual 374, 3) := by decide +kernel
theorem dX8_outputByte_8 : decode cX8_outputByte 8 = .ok (.ireturn, 1) := by decide +kernel
def s_X8_pass_21 (n : Nat) (sv_th : Value) (th_0 : OS) (ru_0 : OS) (no_0 : OS) (w2_j21 : Int32) (rc_21 : (OS) → (Int32) → (Int32) → Option (OS × Int32)) (fo_j21 : OS) (w3_j21 : Int32) (w4_j21 : Int32) : Option (OS × Int32) :=
  if w2_j21 ≤ w4_j21 then (
  some (fo_j21, w3_j21)) else (
  bnd2 (f_X2_tick n fo_j21 ru_0) (fun (fo_2 : OS) (r_3 : Int32) =>
  Let (w3_j21 + r_3) (fun v3_4 : Int32 =>
  Let (w4_j21 + (1 : Int32)) (fun v4_5 : Int32 =>
  rc_21 fo_2 v3_4 v4_5))))
def l_X8_pass_21 (n : Nat) (sv_th : Value) (th_0 : OS) (ru_0 : OS) (no_0 : OS) (w2_j21 : Int32) : Nat → (OS) → (Int32) → (Int32) → Option (OS × Int32)
  | 0 => fun _ _ _ => none
  | N + 1 => s_X8_pass_21 n sv_th th_0 ru_0 no_0 w2_j21 (l_X8_pass_21 n sv_th th_0 ru_0 no_0 w2_j21 N)
def f_X8_pass (n : Nat) (sv_th : Value) (th_0 : OS) (ru_0 : OS) (no_0 : OS) (fo_0 : OS) (v1_0 : Int32) : Option (OS × Int32) :=
  Let (if ((2000 : Int32) - (no_0.1 0)) < v1_0 then ((2000 : Int32) - (no_0.1 0)) else v1_0) (fun v2_1 : Int32 =>
  l_X8_pass_21 n sv_th th_0 ru_0 no_0 v2_1 n fo_0 (0 : Int32) (0 : Int32))
set_option maxHeartbeats 4000000 in
set_option maxRecDepth 100000 in
theorem c_X8_pass (n : Nat) (l : Launch) (k : KT) (a_th : Nat → Nat) (a_in : Nat → Nat) (a_ou : Nat → Nat) (a_ru : Nat → Nat) (a_no : Nat → Nat) (a_fo : Nat → Nat) (a_rd : Nat → Nat) (a_pa : Nat → Nat) (sv_th : Value) (th_0 : OS) (ru_0 : OS) (no_0 : OS) (fo_0 : OS) (v1_0 : Int32) (res : (OS × Int32)) (hf : f_X8_pass n sv_th th_0 ru_0 no_0 fo_0 v1_0 = some res) : CG l k yX8_pass cX8_pass 5 (some .int) 6 0 0 144 [.ref (a_th 0), .int v1_0] (wMCo k a_th (a_in 0) (a_ou 0) (a_ru 0) (a_no 0) (a_fo 0) (a_rd 0) (a_pa 0) sv_th th_0 ++ wRules k a_ru ru_0 ++ wCourt k a_no no_0 ++ wCourt k a_fo fo_0) (Qi k (fun u : OS => wMCo k a_th (a_in 0) (a_ou 0) (a_ru 0) (a_no 0) (a_fo 0) (a_rd 0) (a_pa 0) sv_th th_0 ++ wRules k a_ru ru_0 ++ wCourt k a_no no_0 ++ wCourt k a_fo u) (fun (r : Int32) (u : OS) => res = (u, r))) := by
  refine CG.ofI (by decide) (Nat.le_of_ble_eq_true rfl) (fun p e s m args below meth c A Q E hnm hW hA hret ls hl => ?_)
  have hl : lv_has ls 5 [(0, .ref (a_th 0)), (1, .int v1_0)] := hl
  unfold f_X8_pass at hf
  refine k_iload_n E hl 1 dX8_pass_0 rfl ?_
  refine lv_sipush (v := (2000 : Int32)) E.hx E.hb dX8_pass_1 sp_2000 ?_
  refine k_aload_n E hl 0 dX8_pass_4 rfl ?_
  refine gf_X8_31 E hW 0 rfl rfl dX8_pass_5 ?_
  refine gf_X8_108 E hW 4 rfl rfl dX8_pass_8 ?_
  refine lv_isub E.hx E.hb dX8_pass_11 ?_
  refine va_mmin E.hx E.hb (E.hml.trans hl.1.symm) E.ho (E.w tm_1191 rfl) (E.w tm_617 rfl) (E.w tm_110 rfl) (E.w tm_618 rfl) (by decide) (Nat.le_of_ble_eq_true rfl) (by decide) (by decide) dX8_pass_12 ?_
  obtain ⟨v2_1, ev2_1, hf⟩ := oL hf
  refine k_istore_n (lv' := [(2, .int v2_1), (0, .ref (a_th 0)), (1, .int v1_0)]) E ev2_1 hl dX8_pass_15 rfl (by decide) rfl (fun ls hl => ?_)
  refine lv_iconst (v := (0 : Int32)) E.hx E.hb dX8_pass_16 ic_0 ?_
  refine k_istore_n (lv' := [(3, .int (0 : Int32)), (2, .int v2_1), (0, .ref (a_th 0)), (1, .int v1_0)]) E rfl hl dX8_pass_17 rfl (by decide) rfl (fun ls hl => ?_)
  refine lv_iconst (v := (0 : Int32)) E.hx E.hb dX8_pass_18 ic_0 ?_
  refine k_istore (lv' := [(4, .int (0 : Int32)), (3, .int (0 : Int32)), (2, .int v2_1), (0, .ref (a_th 0)), (1, .int v1_0)]) E rfl hl dX8_pass_19 (by decide) rfl (fun ls hl => ?_)
  have L_21 : ∀ (N_21 : Nat) (fo_j21 : OS) (w3_j21 : Int32) (w4_j21 : Int32) (H : Heap) (locs : List Loc) (ls : Array Slot) (hW : WD k A s.heap (wMCo k a_th (a_in 0) (a_ou 0) (a_ru 0) (a_no 0) (a_fo 0) (a_rd 0) (a_pa 0) sv_th th_0 ++ wRules k a_ru ru_0 ++ wCourt k a_no no_0 ++ wCourt k a_fo fo_j21) H locs) (hl : lv_has ls 5 [(0, .ref (a_th 0)), (2, .int v2_1), (3, .int w3_j21), (4, .int w4_j21)]) (hf : l_X8_pass_21 n sv_th th_0 ru_0 no_0 v2_1 N_21 fo_j21 w3_j21 w4_j21 = some res), W p l e { frames := 6, cells := 0, slots := 0, locals := 144 } s m args below meth c H locs 0 0 Q (F0 m 21 ls []) := by
    intro N_21
    induction N_21 with
    | zero => intro fo_j21 w3_j21 w4_j21 H locs ls hW hl hf; exact o0 hf
    | succ N_21 ih_21 =>
      intro fo_j21 w3_j21 w4_j21 H locs ls hW hl hf
      have hf : s_X8_pass_21 n sv_th th_0 ru_0 no_0 v2_1 (l_X8_pass_21 n sv_th th_0 ru_0 no_0 v2_1 N_21) fo_j21 w3_j21 w4_j21 = some res := hf
      unfold s_X8_pass_21 at hf
      refine k_iload E hl 3 dX8_pass_21 rfl ?_
      refine k_iload_n E hl 1 dX8_pass_23 rfl ?_
      refine lv_icmp_ge (tgt := 47) E.hx E.hb dX8_pass_24 (by decide) (fun hc => ?_) (fun hc => ?_)
      · have hf := oT hc hf
        refine k_iload_n E hl 2 dX8_pass_47 rfl ?_
        exact hret _ fo_j21 _ _ _ _ _ _ hW (Option.some.inj hf).symm rfl (by decide) (by decide) dX8_pass_48
      · have hf := oF hc hf
        refine k_iload_n E hl 2 dX8_pass_27 rfl ?_
        refine k_aload_n E hl 0 dX8_pass_28 rfl ?_
        refine gf_X8_35 E hW 0 rfl rfl dX8_pass_29 ?_
        refine k_aload_n E hl 0 dX8_pass_32 rfl ?_
        refine gf_X8_24 E hW 0 rfl rfl dX8_pass_33 ?_
        obtain ⟨fo_2, r_3, hg, hf⟩ := ob2 hf
        refine k_callVi (As := [.ref (a_ru 0)]) (rest := [.int w3_j21]) (ws2 := fun u => wMCo k a_th (a_in 0) (a_ou 0) (a_ru 0) (a_no 0) (a_fo 0) (a_rd 0) (a_pa 0) sv_th th_0 ++ wRules k a_ru ru_0 ++ wCourt k a_no no_0 ++ wCourt k a_fo (u)) (c_X2_tick n l k a_fo a_ru fo_j21 ru_0 (fo_2, r_3) hg) E vl_X8_286 dX8_pass_36 rfl (List.range' 16 12 ++ List.range' 1 3) 1 16 hW hA hl rfl (by simp only [List.map_append]; exact app2 (blk_map (wMCo k a_th (a_in 0) (a_ou 0) (a_ru 0) (a_no 0) (a_fo 0) (a_rd 0) (a_pa 0) sv_th th_0 ++ wRules k a_ru ru_0 ++ wCourt k a_no no_0) (wCourt k a_fo fo_j21) [] 16 12 (by simp only [List.append_assoc, List.nil_append, List.append_nil]) rfl rfl) (blk_map (wMCo k a_th (a_in 0) (a_ou 0) (a_ru 0) (a_no 0) (a_fo 0) (a_rd 0) (a_pa 0) sv_th th_0) (wRules k a_ru ru_0) (wCourt k a_no no_0 ++ wCourt k a_fo fo_j21) 1 3 (by simp only [List.append_assoc, List.nil_append, List.append_nil]) rfl rfl)) rfl rfl ⟨by decide, by decide⟩ ⟨by decide, by decide⟩ (Nat.le_of_ble_eq_true rfl) rfl (fun _ => rfl) (fun u => by show putW _ (_ ++ _) (_ ++ _) = _; rw [putW_app _ _ _ _ _ rfl, blk_put (wMCo k a_th (a_in 0) (a_ou 0) (a_ru 0) (a_no 0) (a_fo 0) (a_rd 0) (a_pa 0) sv_th th_0 ++ wRules k a_ru ru_0 ++ wCourt k a_no no_0) (wCourt k a_fo fo_j21) [] (wCourt k a_fo (u)) 16 12 (by simp only [List.append_assoc, List.nil_append, List.append_nil]) rfl rfl rfl, blk_put (wMCo k a_th (a_in 0) (a_ou 0) (a_ru 0) (a_no 0) (a_fo 0) (a_rd 0) (a_pa 0) sv_th th_0) (wRules k a_ru ru_0) (wCourt k a_no no_0 ++ wCourt k a_fo (u)) (wRules k a_ru ru_0) 1 3 (by simp only [List.append_assoc, List.nil_append, List.append_nil]) rfl rfl rfl]; try simp only [List.append_assoc, List.nil_append, List.append_nil]) (fun r u H locs hp hW => ?_)
        cases hp
        have hW : WD k A s.heap (wMCo k a_th (a_in 0) (a_ou 0) (a_ru 0) (a_no 0) (a_fo 0) (a_rd 0) (a_pa 0) sv_th th_0 ++ wRules k a_ru ru_0 ++ wCourt k a_no no_0 ++ wCourt k a_fo fo_2) H locs := hW
        refine lv_iadd E.hx E.hb dX8_pass_39 ?_
        obtain ⟨v3_4, ev3_4, hf⟩ := oL hf
        refine k_istore_n (lv' := [(3, .int v3_4), (0, .ref (a_th 0)), (2, .int v2_1), (4, .int w4_j21)]) E ev3_4 hl dX8_pass_40 rfl (by decide) rfl (fun ls hl => ?_)
        obtain ⟨v4_5, ev4_5, hf⟩ := oL hf
        refine k_iinc (lv' := [(4, .int v4_5), (3, .int v3_4), (0, .ref (a_th 0)), (2, .int v2_1)]) E hl 3 dX8_pass_41 rfl (ev4_5.trans (congrArg (fun z => w4_j21 + z) ic_1.symm)) (by decide) rfl (fun ls hl => ?_)
        refine lv_goto (tgt := 21) E.hx E.hb dX8_pass_44 (by decide) ?_
        exact ih_21 fo_2 v3_4 v4_5 _ _ _ hW (lv_sub hl [2, 3, 1, 0] rfl) hf
  exact L_21 n fo_0 (0 : Int32) (0 : Int32) _ _ _ hW (lv_sub hl [3, 2, 1, 0] rfl) hf
def s_X8_passToHearing_15 (n : Nat) (sv_th : Value) (th_0 : OS) (ru_0 : OS) (no_0 : OS) (w1_j15 : Int32) (rc_15 : (OS) → (Int32) → Option (OS)) (fo_j15 : OS) (w2_j15 : Int32) : Option (OS) :=
  if w1_j15 ≤ w2_j15 then (
  some fo_j15) else (
  bnd2 (f_X2_tick n fo_j15 ru_0) (fun (fo_3 : OS) (r_4 : Int32) =>
  Let (w2_j15 + (1 : Int32)) (fun v2_5 : Int32 =>
  rc_15 fo_3 v2_5)))
def l_X8_passToHearing_15 (n : Nat) (sv_th : Value) (th_0 : OS) (ru_0 : OS) (no_0 : OS) (w1_j15 : Int32) : Nat → (OS) → (Int32) → Option (OS)
  | 0 => fun _ _ => none
  | N + 1 => s_X8_passToHearing_15 n sv_th th_0 ru_0 no_0 w1_j15 (l_X8_passToHearing_15 n sv_th th_0 ru_0 no_0 w1_j15 N)
def f_X8_passToHearing (n : Nat) (sv_th : Value) (th_0 : OS) (ru_0 : OS) (no_0 : OS) (fo_0 : OS) : Option (OS) :=
  bnd (f_X8_nextHearing n sv_th th_0 ru_0 no_0) (fun (r_1 : Int32) =>
  Let (r_1 - (no_0.1 0)) (fun v1_2 : Int32 =>
  l_X8_passToHearing_15 n sv_th th_0 ru_0 no_0 v1_2 n fo_0 (0 : Int32)))
set_option maxHeartbeats 4000000 in
set_option maxRecDepth 100000 in
theorem c_X8_passToHearing (n : Nat) (l : Launch) (k : KT) (a_th : Nat → Nat) (a_in : Nat → Nat) (a_ou : Nat → Nat) (a_ru : Nat → Nat) (a_no : Nat → Nat) (a_fo : Nat → Nat) (a_rd : Nat → Nat) (a_pa : Nat → Nat) (sv_th : Value) (th_0 : OS) (ru_0 : OS) (no_0 : OS) (fo_0 : OS) (res : (OS)) (hf : f_X8_passToHearing n sv_th th_0 ru_0 no_0 fo_0 = some res) : CG l k yX8_passToHearing cX8_passToHearing 3 none 6 0 0 144 [.ref (a_th 0)] (wMCo k a_th (a_in 0) (a_ou 0) (a_ru 0) (a_no 0) (a_fo 0) (a_rd 0) (a_pa 0) sv_th th_0 ++ wRules k a_ru ru_0 ++ wCourt k a_no no_0 ++ wCourt k a_fo fo_0) (Qv k (fun u : OS => wMCo k a_th (a_in 0) (a_ou 0) (a_ru 0) (a_no 0) (a_fo 0) (a_rd 0) (a_pa 0) sv_th th_0 ++ wRules k a_ru ru_0 ++ wCourt k a_no no_0 ++ wCourt k a_fo u) (fun u : OS => res = u)) := by
  refine CG.ofV (by decide) (Nat.le_of_ble_eq_true rfl) (fun p e s m args below meth c A Q E hnm hW hA hret ls hl => ?_)
  have hl : lv_has ls 3 [(0, .ref (a_th 0))] := hl
  unfold f_X8_passToHearing at hf
  refine k_aload_n E hl 0 dX8_passToHearing_0 rfl ?_
  obtain ⟨r_1, hg, hf⟩ := ob hf
  refine k_callVi (As := []) (rest := []) (ws2 := fun u => wMCo k a_th (a_in 0) (a_ou 0) (a_ru 0) (a_no 0) (a_fo 0) (a_rd 0) (a_pa 0) sv_th th_0 ++ wRules k a_ru ru_0 ++ wCourt k a_no no_0 ++ wCourt k a_fo fo_0) (c_X8_nextHearing n l k a_th a_in a_ou a_ru a_no a_fo a_rd a_pa sv_th th_0 ru_0 no_0 r_1 hg) E vl_X8_341 dX8_passToHearing_1 rfl (List.range' 0 1 ++ List.range' 1 3 ++ List.range' 4 12) 6 0 hW hA hl rfl (by simp only [List.map_append]; exact app2 (app2 (blk_map [] (wMCo k a_th (a_in 0) (a_ou 0) (a_ru 0) (a_no 0) (a_fo 0) (a_rd 0) (a_pa 0) sv_th th_0) (wRules k a_ru ru_0 ++ wCourt k a_no no_0 ++ wCourt k a_fo fo_0) 0 1 (by simp only [List.append_assoc, List.nil_append, List.append_nil]) rfl rfl) (blk_map (wMCo k a_th (a_in 0) (a_ou 0) (a_ru 0) (a_no 0) (a_fo 0) (a_rd 0) (a_pa 0) sv_th th_0) (wRules k a_ru ru_0) (wCourt k a_no no_0 ++ wCourt k a_fo fo_0) 1 3 (by simp only [List.append_assoc, List.nil_append, List.append_nil]) rfl rfl)) (blk_map (wMCo k a_th (a_in 0) (a_ou 0) (a_ru 0) (a_no 0) (a_fo 0) (a_rd 0) (a_pa 0) sv_th th_0 ++ wRules k a_ru ru_0) (wCourt k a_no no_0) (wCourt k a_fo fo_0) 4 12 (by simp only [List.append_assoc, List.nil_append, List.append_nil]) rfl rfl)) rfl rfl ⟨by decide, by decide⟩ ⟨by decide, by decide⟩ (Nat.le_of_ble_eq_true rfl) rfl (fun _ => rfl) (fun u => by show putW _ (_ ++ _) (_ ++ _) = _; rw [putW_app _ _ _ _ _ rfl, putW_app _ _ _ _ _ rfl, blk_put [] (wMCo k a_th (a_in 0) (a_ou 0) (a_ru 0) (a_no 0) (a_fo 0) (a_rd 0) (a_pa 0) sv_th th_0) (wRules k a_ru ru_0 ++ wCourt k a_no no_0 ++ wCourt k a_fo fo_0) (wMCo k a_th (a_in 0) (a_ou 0) (a_ru 0) (a_no 0) (a_fo 0) (a_rd 0) (a_pa 0) sv_th th_0) 0 1 (by simp only [List.append_assoc, List.nil_append, List.append_nil]) rfl rfl rfl, blk_put (wMCo k a_th (a_in 0) (a_ou 0) (a_ru 0) (a_no 0) (a_fo 0) (a_rd 0) (a_pa 0) sv_th th_0) (wRules k a_ru ru_0) (wCourt k a_no no_0 ++ wCourt k a_fo fo_0) (wRules k a_ru ru_0) 1 3 (by simp only [List.append_assoc, List.nil_append, List.append_nil]) rfl rfl rfl, blk_put (wMCo k a_th (a_in 0) (a_ou 0) (a_ru 0) (a_no 0) (a_fo 0) (a_rd 0) (a_pa 0) sv_th th_0 ++ wRules k a_ru ru_0) (wCourt k a_no no_0) (wCourt k a_fo fo_0) (wCourt k a_no no_0) 4 12 (by simp only [List.append_assoc, List.nil_append, List.append_nil]) rfl rfl rfl]; try simp only [List.append_assoc, List.nil_append, List.append_nil]) (fun r u H locs hp hW => ?_)
  cases hp
  have hW : WD k A s.heap (wMCo k a_th (a_in 0) (a_ou 0) (a_ru 0) (a_no 0) (a_fo 0) (a_rd 0) (a_pa 0) sv_th th_0 ++ wRules k a_ru ru_0 ++ wCourt k a_no no_0 ++ wCourt k a_fo fo_0) H locs := hW
  refine k_aload_n E hl 0 dX8_passToHearing_4 rfl ?_
  refine gf_X8_31 E hW 0 rfl rfl dX8_passToHearing_5 ?_
  refine gf_X8_108 E hW 4 rfl rfl dX8_passToHearing_8 ?_
  refine lv_isub E.hx E.hb dX8_passToHearing_11 ?_
  obtain ⟨v1_2, ev1_2, hf⟩ := oL hf
  refine k_istore_n (lv' := [(1, .int v1_2), (0, .ref (a_th 0))]) E ev1_2 hl dX8_passToHearing_12 rfl (by decide) rfl (fun ls hl => ?_)
  refine lv_iconst (v := (0 : Int32)) E.hx E.hb dX8_passToHearing_13 ic_0 ?_
  refine k_istore_n (lv' := [(2, .int (0 : Int32)), (1, .int v1_2), (0, .ref (a_th 0))]) E rfl hl dX8_passToHearing_14 rfl (by decide) rfl (fun ls hl => ?_)
  have L_15 : ∀ (N_15 : Nat) (fo_j15 : OS) (w2_j15 : Int32) (H : Heap) (locs : List Loc) (ls : Array Slot) (hW : WD k A s.heap (wMCo k a_th (a_in 0) (a_ou 0) (a_ru 0) (a_no 0) (a_fo 0) (a_rd 0) (a_pa 0) sv_th th_0 ++ wRules k a_ru ru_0 ++ wCourt k a_no no_0 ++ wCourt k a_fo fo_j15) H locs) (hl : lv_has ls 3 [(0, .ref (a_th 0)), (1, .int v1_2), (2, .int w2_j15)]) (hf : l_X8_passToHearing_15 n sv_th th_0 ru_0 no_0 v1_2 N_15 fo_j15 w2_j15 = some res), W p l e { frames := 6, cells := 0, slots := 0, locals := 144 } s m args below meth c H locs 0 0 Q (F0 m 15 ls []) := by
    intro N_15
    induction N_15 with
    | zero => intro fo_j15 w2_j15 H locs ls hW hl hf; exact o0 hf
    | succ N_15 ih_15 =>
      intro fo_j15 w2_j15 H locs ls hW hl hf
      have hf : s_X8_passToHearing_15 n sv_th th_0 ru_0 no_0 v1_2 (l_X8_passToHearing_15 n sv_th th_0 ru_0 no_0 v1_2 N_15) fo_j15 w2_j15 = some res := hf
      unfold s_X8_passToHearing_15 at hf
      refine k_iload_n E hl 2 dX8_passToHearing_15 rfl ?_
      refine k_iload_n E hl 1 dX8_passToHearing_16 rfl ?_
      refine lv_icmp_ge (tgt := 38) E.hx E.hb dX8_passToHearing_17 (by decide) (fun hc => ?_) (fun hc => ?_)
      · have hf := oT hc hf
        exact hret fo_j15 _ _ _ _ _ _ hW (Option.some.inj hf).symm (by decide) (by decide) dX8_passToHearing_38
      · have hf := oF hc hf
        refine k_aload_n E hl 0 dX8_passToHearing_20 rfl ?_
        refine gf_X8_35 E hW 0 rfl rfl dX8_passToHearing_21 ?_
        refine k_aload_n E hl 0 dX8_passToHearing_24 rfl ?_
        refine gf_X8_24 E hW 0 rfl rfl dX8_passToHearing_25 ?_
        obtain ⟨fo_3, r_4, hg, hf⟩ := ob2 hf
        refine k_callVi (As := [.ref (a_ru 0)]) (rest := []) (ws2 := fun u => wMCo k a_th (a_in 0) (a_ou 0) (a_ru 0) (a_no 0) (a_fo 0) (a_rd 0) (a_pa 0) sv_th th_0 ++ wRules k a_ru ru_0 ++ wCourt k a_no no_0 ++ wCourt k a_fo (u)) (c_X2_tick n l k a_fo a_ru fo_j15 ru_0 (fo_3, r_4) hg) E vl_X8_286 dX8_passToHearing_28 rfl (List.range' 16 12 ++ List.range' 1 3) 1 16 hW hA hl rfl (by simp only [List.map_append]; exact app2 (blk_map (wMCo k a_th (a_in 0) (a_ou 0) (a_ru 0) (a_no 0) (a_fo 0) (a_rd 0) (a_pa 0) sv_th th_0 ++ wRules k a_ru ru_0 ++ wCourt k a_no no_0) (wCourt k a_fo fo_j15) [] 16 12 (by simp only [List.append_assoc, List.nil_append, List.append_nil]) rfl rfl) (blk_map (wMCo k a_th (a_in 0) (a_ou 0) (a_ru 0) (a_no 0) (a_fo 0) (a_rd 0) (a_pa 0) sv_th th_0) (wRules k a_ru ru_0) (wCourt k a_no no_0 ++ wCourt k a_fo fo_j15) 1 3 (by simp only [List.append_assoc, List.nil_append, List.append_nil]) rfl rfl)) rfl rfl ⟨by decide, by decide⟩ ⟨by decide, by decide⟩ (Nat.le_of_ble_eq_true rfl) rfl (fun _ => rfl) (fun u => by show putW _ (_ ++ _) (_ ++ _) = _; rw [putW_app _ _ _ _ _ rfl, blk_put (wMCo k a_th (a_in 0) (a_ou 0) (a_ru 0) (a_no 0) (a_fo 0) (a_rd 0) (a_pa 0) sv_th th_0 ++ wRules k a_ru ru_0 ++ wCourt k a_no no_0) (wCourt k a_fo fo_j15) [] (wCourt k a_fo (u)) 16 12 (by simp only [List.append_assoc, List.nil_append, List.append_nil]) rfl rfl rfl, blk_put (wMCo k a_th (a_in 0) (a_ou 0) (a_ru 0) (a_no 0) (a_fo 0) (a_rd 0) (a_pa 0) sv_th th_0) (wRules k a_ru ru_0) (wCourt k a_no no_0 ++ wCourt k a_fo (u)) (wRules k a_ru ru_0) 1 3 (by simp only [List.append_assoc, List.nil_append, List.append_nil]) rfl rfl rfl]; try simp only [List.append_assoc, List.nil_append, List.append_nil]) (fun r u H locs hp hW => ?_)
        cases hp
        have hW : WD k A s.heap (wMCo k a_th (a_in 0) (a_ou 0) (a_ru 0) (a_no 0) (a_fo 0) (a_rd 0) (a_pa 0) sv_th th_0 ++ wRules k a_ru ru_0 ++ wCourt k a_no no_0 ++ wCourt k a_fo fo_3) H locs := hW
        refine lv_pop E.hx E.hb dX8_passToHearing_31 rfl ?_
        obtain ⟨v2_5, ev2_5, hf⟩ := oL hf
        refine k_iinc (lv' := [(2, .int v2_5), (0, .ref (a_th 0)), (1, .int v1_2)]) E hl 2 dX8_passToHearing_32 rfl (ev2_5.trans (congrArg (fun z => w2_j15 + z) ic_1.symm)) (by decide) rfl (fun ls hl => ?_)
        refine lv_goto (tgt := 15) E.hx E.hb dX8_passToHearing_35 (by decide) ?_
        exact ih_15 fo_3 v2_5 _ _ _ hW (lv_sub hl [1, 2, 0] rfl) hf
  exact L_15 n fo_0 (0 : Int32) _ _ _ hW (lv_sub hl [2, 1, 0] rfl) hf
def s_X8_ticksUntil_44 (n : Nat) (sv_th : Value) (th_0 : OS) (ru_0 : OS) (no_0 : OS) (w1_j44 : Int32) (w2_j44 : Int32) (w4_j44 : Int32) (rc_44 : (OS) → (Int32) → Option (OS × Int32)) (fo_j44 : OS) (w5_j44 : Int32) : Option (OS × Int32) :=
  if w4_j44 < w5_j44 then (
  some (fo_j44, (-1 : Int32))) else (
  bnd2 (f_X2_tick n fo_j44 ru_0) (fun (fo_4 : OS) (r_5 : Int32) =>
  bnd (f_X6_get n (7 : Int32) 420 (fo_4.2.1 13) w1_j44 (3 : Int32)) (fun (r_6 : Int32) =>
  if r_6 = w2_j44 then (
  some (fo_4, w5_j44)) else (
  Let (w5_j44 + (1 : Int32)) (fun v5_7 : Int32 =>
  rc_44 fo_4 v5_7)))))
def l_X8_ticksUntil_44 (n : Nat) (sv_th : Value) (th_0 : OS) (ru_0 : OS) (no_0 : OS) (w1_j44 : Int32) (w2_j44 : Int32) (w4_j44 : Int32) : Nat → (OS) → (Int32) → Option (OS × Int32)
  | 0 => fun _ _ => none
  | N + 1 => s_X8_ticksUntil_44 n sv_th th_0 ru_0 no_0 w1_j44 w2_j44 w4_j44 (l_X8_ticksUntil_44 n sv_th th_0 ru_0 no_0 w1_j44 w2_j44 w4_j44 N)
def f_X8_ticksUntil (n : Nat) (sv_th : Value) (th_0 : OS) (ru_0 : OS) (no_0 : OS) (fo_0 : OS) (v1_0 : Int32) (v2_0 : Int32) (v3_0 : Int32) : Option (OS × Int32) :=
  bnd (f_X2_waits n no_0 v1_0) (fun (r_1 : Int32) =>
  if r_1 = 0 then (
  some (fo_0, (-1 : Int32))) else (
  bnd (f_X2_copyFrom n fo_0 no_0) (fun (fo_2 : OS) =>
  Let (if ((2000 : Int32) - (no_0.1 0)) < v3_0 then ((2000 : Int32) - (no_0.1 0)) else v3_0) (fun v4_3 : Int32 =>
  l_X8_ticksUntil_44 n sv_th th_0 ru_0 no_0 v1_0 v2_0 v4_3 n fo_2 (1 : Int32)))))
set_option maxHeartbeats 4000000 in
set_option maxRecDepth 100000 in
theorem c_X8_ticksUntil (n : Nat) (l : Launch) (k : KT) (a_th : Nat → Nat) (a_in : Nat → Nat) (a_ou : Nat → Nat) (a_ru : Nat → Nat) (a_no : Nat → Nat) (a_fo : Nat → Nat) (a_rd : Nat → Nat) (a_pa : Nat → Nat) (sv_th : Value) (th_0 : OS) (ru_0 : OS) (no_0 : OS) (fo_0 : OS) (v1_0 : Int32) (v2_0 : Int32) (v3_0 : Int32) (res : (OS × Int32)) (hf : f_X8_ticksUntil n sv_th th_0 ru_0 no_0 fo_0 v1_0 v2_0 v3_0 = some res) : CG l k yX8_ticksUntil cX8_ticksUntil 6 (some .int) 6 0 0 144 [.ref (a_th 0), .int v1_0, .int v2_0, .int v3_0] (wMCo k a_th (a_in 0) (a_ou 0) (a_ru 0) (a_no 0) (a_fo 0) (a_rd 0) (a_pa 0) sv_th th_0 ++ wRules k a_ru ru_0 ++ wCourt k a_no no_0 ++ wCourt k a_fo fo_0) (Qi k (fun u : OS => wMCo k a_th (a_in 0) (a_ou 0) (a_ru 0) (a_no 0) (a_fo 0) (a_rd 0) (a_pa 0) sv_th th_0 ++ wRules k a_ru ru_0 ++ wCourt k a_no no_0 ++ wCourt k a_fo u) (fun (r : Int32) (u : OS) => res = (u, r))) := by
  refine CG.ofI (by decide) (Nat.le_of_ble_eq_true rfl) (fun p e s m args below meth c A Q E hnm hW hA hret ls hl => ?_)
  have hl : lv_has ls 6 [(0, .ref (a_th 0)), (1, .int v1_0), (2, .int v2_0), (3, .int v3_0)] := hl
  unfold f_X8_ticksUntil at hf
  refine k_aload_n E hl 0 dX8_ticksUntil_0 rfl ?_
  refine gf_X8_31 E hW 0 rfl rfl dX8_ticksUntil_1 ?_
  refine k_iload_n E hl 1 dX8_ticksUntil_4 rfl ?_
  obtain ⟨r_1, hg, hf⟩ := ob hf
  refine k_callVi (As := [.int v1_0]) (rest := []) (ws2 := fun u => wMCo k a_th (a_in 0) (a_ou 0) (a_ru 0) (a_no 0) (a_fo 0) (a_rd 0) (a_pa 0) sv_th th_0 ++ wRules k a_ru ru_0 ++ wCourt k a_no no_0 ++ wCourt k a_fo fo_0) (c_X2_waits n l k a_no no_0 v1_0 r_1 hg) E vl_X8_298 dX8_ticksUntil_5 rfl (List.range' 4 12) 1 4 hW hA hl rfl (by exact blk_map (wMCo k a_th (a_in 0) (a_ou 0) (a_ru 0) (a_no 0) (a_fo 0) (a_rd 0) (a_pa 0) sv_th th_0 ++ wRules k a_ru ru_0) (wCourt k a_no no_0) (wCourt k a_fo fo_0) 4 12 (by simp only [List.append_assoc, List.nil_append, List.append_nil]) rfl rfl) rfl rfl ⟨by decide, by decide⟩ ⟨by decide, by decide⟩ (Nat.le_of_ble_eq_true rfl) rfl (fun _ => rfl) (fun u => by rw [blk_put (wMCo k a_th (a_in 0) (a_ou 0) (a_ru 0) (a_no 0) (a_fo 0) (a_rd 0) (a_pa 0) sv_th th_0 ++ wRules k a_ru ru_0) (wCourt k a_no no_0) (wCourt k a_fo fo_0) (wCourt k a_no no_0) 4 12 (by simp only [List.append_assoc, List.nil_append, List.append_nil]) rfl rfl rfl]; try simp only [List.append_assoc, List.nil_append, List.append_nil]) (fun r u H locs hp hW => ?_)
  cases hp
  have hW : WD k A s.heap (wMCo k a_th (a_in 0) (a_ou 0) (a_ru 0) (a_no 0) (a_fo 0) (a_rd 0) (a_pa 0) sv_th th_0 ++ wRules k a_ru ru_0 ++ wCourt k a_no no_0 ++ wCourt k a_fo fo_0) H locs := hW
  refine lv_if_ne (tgt := 13) E.hx E.hb dX8_ticksUntil_8 (by decide) (fun hc => ?_) (fun hc => ?_)
  · have hf := oF hc hf
    refine k_aload_n E hl 0 dX8_ticksUntil_13 rfl ?_
    refine gf_X8_35 E hW 0 rfl rfl dX8_ticksUntil_14 ?_
    refine k_aload_n E hl 0 dX8_ticksUntil_17 rfl ?_
    refine gf_X8_31 E hW 0 rfl rfl dX8_ticksUntil_18 ?_
    obtain ⟨fo_2, hg, hf⟩ := ob hf
    refine k_callVv (As := [.ref (a_no 0)]) (rest := []) (ws2 := fun u => wMCo k a_th (a_in 0) (a_ou 0) (a_ru 0) (a_no 0) (a_fo 0) (a_rd 0) (a_pa 0) sv_th th_0 ++ wRules k a_ru ru_0 ++ wCourt k a_no no_0 ++ wCourt k a_fo (u)) (c_X2_copyFrom n l k a_fo a_no fo_0 no_0 fo_2 hg) E vl_X8_90 dX8_ticksUntil_21 rfl (List.range' 16 12 ++ List.range' 4 12) 1 16 hW hA hl rfl (by simp only [List.map_append]; exact app2 (blk_map (wMCo k a_th (a_in 0) (a_ou 0) (a_ru 0) (a_no 0) (a_fo 0) (a_rd 0) (a_pa 0) sv_th th_0 ++ wRules k a_ru ru_0 ++ wCourt k a_no no_0) (wCourt k a_fo fo_0) [] 16 12 (by simp only [List.append_assoc, List.nil_append, List.append_nil]) rfl rfl) (blk_map (wMCo k a_th (a_in 0) (a_ou 0) (a_ru 0) (a_no 0) (a_fo 0) (a_rd 0) (a_pa 0) sv_th th_0 ++ wRules k a_ru ru_0) (wCourt k a_no no_0) (wCourt k a_fo fo_0) 4 12 (by simp only [List.append_assoc, List.nil_append, List.append_nil]) rfl rfl)) rfl rfl ⟨by decide, by decide⟩ ⟨by decide, by decide⟩ (Nat.le_of_ble_eq_true rfl) rfl (fun _ => rfl) (fun u => by show putW _ (_ ++ _) (_ ++ _) = _; rw [putW_app _ _ _ _ _ rfl, blk_put (wMCo k a_th (a_in 0) (a_ou 0) (a_ru 0) (a_no 0) (a_fo 0) (a_rd 0) (a_pa 0) sv_th th_0 ++ wRules k a_ru ru_0 ++ wCourt k a_no no_0) (wCourt k a_fo fo_0) [] (wCourt k a_fo (u)) 16 12 (by simp only [List.append_assoc, List.nil_append, List.append_nil]) rfl rfl rfl, blk_put (wMCo k a_th (a_in 0) (a_ou 0) (a_ru 0) (a_no 0) (a_fo 0) (a_rd 0) (a_pa 0) sv_th th_0 ++ wRules k a_ru ru_0) (wCourt k a_no no_0) (wCourt k a_fo (u)) (wCourt k a_no no_0) 4 12 (by simp only [List.append_assoc, List.nil_append, List.append_nil]) rfl rfl rfl]; try simp only [List.append_assoc, List.nil_append, List.append_nil]) (fun u H locs hp hW => ?_)
    cases hp
    have hW : WD k A s.heap (wMCo k a_th (a_in 0) (a_ou 0) (a_ru 0) (a_no 0) (a_fo 0) (a_rd 0) (a_pa 0) sv_th th_0 ++ wRules k a_ru ru_0 ++ wCourt k a_no no_0 ++ wCourt k a_fo fo_2) H locs := hW
    refine k_iload_n E hl 3 dX8_ticksUntil_24 rfl ?_
    refine lv_sipush (v := (2000 : Int32)) E.hx E.hb dX8_ticksUntil_25 sp_2000 ?_
    refine k_aload_n E hl 0 dX8_ticksUntil_28 rfl ?_
    refine gf_X8_31 E hW 0 rfl rfl dX8_ticksUntil_29 ?_
    refine gf_X8_108 E hW 4 rfl rfl dX8_ticksUntil_32 ?_
    refine lv_isub E.hx E.hb dX8_ticksUntil_35 ?_
    refine va_mmin E.hx E.hb (E.hml.trans hl.1.symm) E.ho (E.w tm_1191 rfl) (E.w tm_617 rfl) (E.w tm_110 rfl) (E.w tm_618 rfl) (by decide) (Nat.le_of_ble_eq_true rfl) (by decide) (by decide) dX8_ticksUntil_36 ?_
    obtain ⟨v4_3, ev4_3, hf⟩ := oL hf
    refine k_istore (lv' := [(4, .int v4_3), (0, .ref (a_th 0)), (1, .int v1_0), (2, .int v2_0), (3, .int v3_0)]) E ev4_3 hl dX8_ticksUntil_39 (by decide) rfl (fun ls hl => ?_)
    refine lv_iconst (v := (1 : Int32)) E.hx E.hb dX8_ticksUntil_41 ic_1 ?_
    refine k_istore (lv' := [(5, .int (1 : Int32)), (4, .int v4_3), (0, .ref (a_th 0)), (1, .int v1_0), (2, .int v2_0), (3, .int v3_0)]) E rfl hl dX8_ticksUntil_42 (by decide) rfl (fun ls hl => ?_)
    have L_44 : ∀ (N_44 : Nat) (fo_j44 : OS) (w5_j44 : Int32) (H : Heap) (locs : List Loc) (ls : Array Slot) (hW : WD k A s.heap (wMCo k a_th (a_in 0) (a_ou 0) (a_ru 0) (a_no 0) (a_fo 0) (a_rd 0) (a_pa 0) sv_th th_0 ++ wRules k a_ru ru_0 ++ wCourt k a_no no_0 ++ wCourt k a_fo fo_j44) H locs) (hl : lv_has ls 6 [(0, .ref (a_th 0)), (1, .int v1_0), (2, .int v2_0), (4, .int v4_3), (5, .int w5_j44)]) (hf : l_X8_ticksUntil_44 n sv_th th_0 ru_0 no_0 v1_0 v2_0 v4_3 N_44 fo_j44 w5_j44 = some res), W p l e { frames := 6, cells := 0, slots := 0, locals := 144 } s m args below meth c H locs 0 0 Q (F0 m 44 ls []) := by
      intro N_44
      induction N_44 with
      | zero => intro fo_j44 w5_j44 H locs ls hW hl hf; exact o0 hf
      | succ N_44 ih_44 =>
        intro fo_j44 w5_j44 H locs ls hW hl hf
        have hf : s_X8_ticksUntil_44 n sv_th th_0 ru_0 no_0 v1_0 v2_0 v4_3 (l_X8_ticksUntil_44 n sv_th th_0 ru_0 no_0 v1_0 v2_0 v4_3 N_44) fo_j44 w5_j44 = some res := hf
        unfold s_X8_ticksUntil_44 at hf
        refine k_iload E hl 4 dX8_ticksUntil_44 rfl ?_
        refine k_iload E hl 3 dX8_ticksUntil_46 rfl ?_
        refine lv_icmp_gt (tgt := 88) E.hx E.hb dX8_ticksUntil_48 (by decide) (fun hc => ?_) (fun hc => ?_)
        · have hf := oT hc hf
          refine lv_iconst (v := (-1 : Int32)) E.hx E.hb dX8_ticksUntil_88 ic_m1 ?_
          exact hret _ fo_j44 _ _ _ _ _ _ hW (Option.some.inj hf).symm rfl (by decide) (by decide) dX8_ticksUntil_89
        · have hf := oF hc hf
          refine k_aload_n E hl 0 dX8_ticksUntil_51 rfl ?_
          refine gf_X8_35 E hW 0 rfl rfl dX8_ticksUntil_52 ?_
          refine k_aload_n E hl 0 dX8_ticksUntil_55 rfl ?_
          refine gf_X8_24 E hW 0 rfl rfl dX8_ticksUntil_56 ?_
          obtain ⟨fo_4, r_5, hg, hf⟩ := ob2 hf
          refine k_callVi (As := [.ref (a_ru 0)]) (rest := []) (ws2 := fun u => wMCo k a_th (a_in 0) (a_ou 0) (a_ru 0) (a_no 0) (a_fo 0) (a_rd 0) (a_pa 0) sv_th th_0 ++ wRules k a_ru ru_0 ++ wCourt k a_no no_0 ++ wCourt k a_fo (u)) (c_X2_tick n l k a_fo a_ru fo_j44 ru_0 (fo_4, r_5) hg) E vl_X8_286 dX8_ticksUntil_59 rfl (List.range' 16 12 ++ List.range' 1 3) 1 16 hW hA hl rfl (by simp only [List.map_append]; exact app2 (blk_map (wMCo k a_th (a_in 0) (a_ou 0) (a_ru 0) (a_no 0) (a_fo 0) (a_rd 0) (a_pa 0) sv_th th_0 ++ wRules k a_ru ru_0 ++ wCourt k a_no no_0) (wCourt k a_fo fo_j44) [] 16 12 (by simp only [List.append_assoc, List.nil_append, List.append_nil]) rfl rfl) (blk_map (wMCo k a_th (a_in 0) (a_ou 0) (a_ru 0) (a_no 0) (a_fo 0) (a_rd 0) (a_pa 0) sv_th th_0) (wRules k a_ru ru_0) (wCourt k a_no no_0 ++ wCourt k a_fo fo_j44) 1 3 (by simp only [List.append_assoc, List.nil_append, List.append_nil]) rfl rfl)) rfl rfl ⟨by decide, by decide⟩ ⟨by decide, by decide⟩ (Nat.le_of_ble_eq_true rfl) rfl (fun _ => rfl) (fun u => by show putW _ (_ ++ _) (_ ++ _) = _; rw [putW_app _ _ _ _ _ rfl, blk_put (wMCo k a_th (a_in 0) (a_ou 0) (a_ru 0) (a_no 0) (a_fo 0) (a_rd 0) (a_pa 0) sv_th th_0 ++ wRules k a_ru ru_0 ++ wCourt k a_no no_0) (wCourt k a_fo fo_j44) [] (wCourt k a_fo (u)) 16 12 (by simp only [List.append_assoc, List.nil_append, List.append_nil]) rfl rfl rfl, blk_put (wMCo k a_th (a_in 0) (a_ou 0) (a_ru 0) (a_no 0) (a_fo 0) (a_rd 0) (a_pa 0) sv_th th_0) (wRules k a_ru ru_0) (wCourt k a_no no_0 ++ wCourt k a_fo (u)) (wRules k a_ru ru_0) 1 3 (by simp only [List.append_assoc, List.nil_append, List.append_nil]) rfl rfl rfl]; try simp only [List.append_assoc, List.nil_append, List.append_nil]) (fun r u H locs hp hW => ?_)
          cases hp
          have hW : WD k A s.heap (wMCo k a_th (a_in 0) (a_ou 0) (a_ru 0) (a_no 0) (a_fo 0) (a_rd 0) (a_pa 0) sv_th th_0 ++ wRules k a_ru ru_0 ++ wCourt k a_no no_0 ++ wCourt k a_fo fo_4) H locs := hW
          refine lv_pop E.hx E.hb dX8_ticksUntil_62 rfl ?_
          refine k_aload_n E hl 0 dX8_ticksUntil_63 rfl ?_
          refine gf_X8_35 E hW 0 rfl rfl dX8_ticksUntil_64 ?_
          refine gf_X8_222 E hW 16 rfl rfl dX8_ticksUntil_67 ?_
          refine k_iload_n E hl 1 dX8_ticksUntil_70 rfl ?_
          refine lv_iconst (v := (3 : Int32)) E.hx E.hb dX8_ticksUntil_71 ic_3 ?_
          obtain ⟨r_6, hg, hf⟩ := ob hf
          refine k_callVi (As := [.int v1_0, .int (3 : Int32)]) (rest := []) (ws2 := fun u => wMCo k a_th (a_in 0) (a_ou 0) (a_ru 0) (a_no 0) (a_fo 0) (a_rd 0) (a_pa 0) sv_th th_0 ++ wRules k a_ru ru_0 ++ wCourt k a_no no_0 ++ wCourt k a_fo fo_4) (c_X6_get n l k (fun j => a_fo (7 + j)) (7 : Int32) 420 (fo_4.2.1 13) v1_0 (3 : Int32) r_6 hg) E vl_X8_171 dX8_ticksUntil_72 rfl [23, 24] 5 23 hW hA hl rfl rfl rfl rfl ⟨by decide, by decide⟩ ⟨by decide, by decide⟩ (Nat.le_of_ble_eq_true rfl) rfl (fun _ => rfl) (fun _ => rfl) (fun r u H locs hp hW => ?_)
          cases hp
          have hW : WD k A s.heap (wMCo k a_th (a_in 0) (a_ou 0) (a_ru 0) (a_no 0) (a_fo 0) (a_rd 0) (a_pa 0) sv_th th_0 ++ wRules k a_ru ru_0 ++ wCourt k a_no no_0 ++ wCourt k a_fo fo_4) H locs := hW
          refine k_iload_n E hl 2 dX8_ticksUntil_75 rfl ?_
          refine lv_icmp_ne (tgt := 82) E.hx E.hb dX8_ticksUntil_76 (by decide) (fun hc => ?_) (fun hc => ?_)
          · have hf := oF hc hf
            obtain ⟨v5_7, ev5_7, hf⟩ := oL hf
            refine k_iinc (lv' := [(5, .int v5_7), (0, .ref (a_th 0)), (1, .int v1_0), (2, .int v2_0), (4, .int v4_3)]) E hl 4 dX8_ticksUntil_82 rfl (ev5_7.trans (congrArg (fun z => w5_j44 + z) ic_1.symm)) (by decide) rfl (fun ls hl => ?_)
            refine lv_goto (tgt := 44) E.hx E.hb dX8_ticksUntil_85 (by decide) ?_
            exact ih_44 fo_4 v5_7 _ _ _ hW (lv_sub hl [1, 2, 3, 4, 0] rfl) hf
          · have hf := oT hc hf
            refine k_iload E hl 4 dX8_ticksUntil_79 rfl ?_
            exact hret _ fo_4 _ _ _ _ _ _ hW (Option.some.inj hf).symm rfl (by decide) (by decide) dX8_ticksUntil_81
    exact L_44 n fo_2 (1 : Int32) _ _ _ hW (lv_sub hl [2, 3, 4, 1, 0] rfl) hf
  · have hf := oT hc hf
    refine lv_iconst (v := (-1 : Int32)) E.hx E.hb dX8_ticksUntil_11 ic_m1 ?_
    exact hret _ fo_0 _ _ _ _ _ _ hW (Option.some.inj hf).symm rfl (by decide) (by decide) dX8_ticksUntil_12
def f_X8_metIn (n : Nat) (sv_th : Value) (th_0 : OS) (ru_0 : OS) (no_0 : OS) (fo_0 : OS) (v1_0 : Int32) (v2_0 : Int32) : Option (OS × Int32 × Nat) :=
  bnd (f_X8_needClaim n sv_th th_0 no_0 v1_0) (fun (cd_1 : Nat) =>
  if cd_1 = 0 then (
  bnd (f_X8_needTicks n sv_th th_0 v2_0) (fun (cd_2 : Nat) =>
  if cd_2 = 0 then (
  bnd2 (f_X8_ticksUntil n sv_th th_0 ru_0 no_0 fo_0 v1_0 (1 : Int32) v2_0) (fun (fo_3 : OS) (r_4 : Int32) =>
  some (fo_3, r_4, 0))) else (
  some (fo_0, (0 : Int32), cd_2)))) else (
  some (fo_0, (0 : Int32), cd_1)))
set_option maxHeartbeats 4000000 in
set_option maxRecDepth 100000 in
theorem c_X8_metIn (n : Nat) (l : Launch) (k : KT) (hx : XH l k) (a_th : Nat → Nat) (a_in : Nat → Nat) (a_ou : Nat → Nat) (a_ru : Nat → Nat) (a_no : Nat → Nat) (a_fo : Nat → Nat) (a_rd : Nat → Nat) (a_pa : Nat → Nat) (sv_th : Value) (th_0 : OS) (ru_0 : OS) (no_0 : OS) (fo_0 : OS) (v1_0 : Int32) (v2_0 : Int32) (res : (OS × Int32 × Nat)) (hf : f_X8_metIn n sv_th th_0 ru_0 no_0 fo_0 v1_0 v2_0 = some res) : CX l k yX8_metIn cX8_metIn 3 (some .int) 7 2 12 169 [.ref (a_th 0), .int v1_0, .int v2_0] (wMCo k a_th (a_in 0) (a_ou 0) (a_ru 0) (a_no 0) (a_fo 0) (a_rd 0) (a_pa 0) sv_th th_0 ++ wRules k a_ru ru_0 ++ wCourt k a_no no_0 ++ wCourt k a_fo fo_0) (Qi k (fun u : OS => wMCo k a_th (a_in 0) (a_ou 0) (a_ru 0) (a_no 0) (a_fo 0) (a_rd 0) (a_pa 0) sv_th th_0 ++ wRules k a_ru ru_0 ++ wCourt k a_no no_0 ++ wCourt k a_fo u) (fun (r : Int32) (u : OS) => res = (u, r, 0))) (Xq k (fun u : OS => wMCo k a_th (a_in 0) (a_ou 0) (a_ru 0) (a_no 0) (a_fo 0) (a_rd 0) (a_pa 0) sv_th th_0 ++ wRules k a_ru ru_0 ++ wCourt k a_no no_0 ++ wCourt k a_fo u) (fun (cd : Nat) (u : OS) => cd ≠ 0 ∧ res = (u, (0 : Int32), cd))) := by
  refine CX.ofI hx rfl (by decide) (Nat.le_of_ble_eq_true rfl) (by decide) (by decide) (fun p e s m args below meth c A Q E hnm hW hA hret hout hthr ls hl => ?_)
  have hl : lv_has ls 3 [(0, .ref (a_th 0)), (1, .int v1_0), (2, .int v2_0)] := hl
  unfold f_X8_metIn at hf
  refine k_aload_n E hl 0 dX8_metIn_0 rfl ?_
  refine k_iload_n E hl 1 dX8_metIn_1 rfl ?_
  obtain ⟨cd_1, hg, hf⟩ := ob hf
  refine k_callXv (As := [.int v1_0]) (rest := []) (ws2 := fun u => wMCo k a_th (a_in 0) (a_ou 0) (a_ru 0) (a_no 0) (a_fo 0) (a_rd 0) (a_pa 0) sv_th th_0 ++ wRules k a_ru ru_0 ++ wCourt k a_no no_0 ++ wCourt k a_fo fo_0) (c_X8_needClaim n l k hx a_th a_in a_ou a_ru a_no a_fo a_rd a_pa sv_th th_0 no_0 v1_0 cd_1 hg) E vl_X8_217 dX8_metIn_2 rfl (List.range' 0 1 ++ List.range' 4 12) 6 0 hW hA hl rfl (by simp only [List.map_append]; exact app2 (blk_map [] (wMCo k a_th (a_in 0) (a_ou 0) (a_ru 0) (a_no 0) (a_fo 0) (a_rd 0) (a_pa 0) sv_th th_0) (wRules k a_ru ru_0 ++ wCourt k a_no no_0 ++ wCourt k a_fo fo_0) 0 1 (by simp only [List.append_assoc, List.nil_append, List.append_nil]) rfl rfl) (blk_map (wMCo k a_th (a_in 0) (a_ou 0) (a_ru 0) (a_no 0) (a_fo 0) (a_rd 0) (a_pa 0) sv_th th_0 ++ wRules k a_ru ru_0) (wCourt k a_no no_0) (wCourt k a_fo fo_0) 4 12 (by simp only [List.append_assoc, List.nil_append, List.append_nil]) rfl rfl)) rfl rfl ⟨by decide, by decide⟩ ⟨by decide, by decide⟩ (Nat.le_of_ble_eq_true rfl) rfl (fun _ => rfl) (fun u => by show putW _ (_ ++ _) (_ ++ _) = _; rw [putW_app _ _ _ _ _ rfl, blk_put [] (wMCo k a_th (a_in 0) (a_ou 0) (a_ru 0) (a_no 0) (a_fo 0) (a_rd 0) (a_pa 0) sv_th th_0) (wRules k a_ru ru_0 ++ wCourt k a_no no_0 ++ wCourt k a_fo fo_0) (wMCo k a_th (a_in 0) (a_ou 0) (a_ru 0) (a_no 0) (a_fo 0) (a_rd 0) (a_pa 0) sv_th th_0) 0 1 (by simp only [List.append_assoc, List.nil_append, List.append_nil]) rfl rfl rfl, blk_put (wMCo k a_th (a_in 0) (a_ou 0) (a_ru 0) (a_no 0) (a_fo 0) (a_rd 0) (a_pa 0) sv_th th_0 ++ wRules k a_ru ru_0) (wCourt k a_no no_0) (wCourt k a_fo fo_0) (wCourt k a_no no_0) 4 12 (by simp only [List.append_assoc, List.nil_append, List.append_nil]) rfl rfl rfl]; try simp only [List.append_assoc, List.nil_append, List.append_nil]) (fun cd9 u ce9 q9 H locs hp hW hce hcv hcls => ?_) (fun u H locs hp hW => ?_)
  · obtain ⟨hcd, hp⟩ := hp
    cases hp
    have hW : WD k A s.heap (wMCo k a_th (a_in 0) (a_ou 0) (a_ru 0) (a_no 0) (a_fo 0) (a_rd 0) (a_pa 0) sv_th th_0 ++ wRules k a_ru ru_0 ++ wCourt k a_no no_0 ++ wCourt k a_fo fo_0) H locs := hW
    have hf := oF hcd hf
    exact hout _ fo_0 _ _ _ _ _ _ _ _ _ ⟨hcd, (Option.some.inj hf).symm⟩ hW hce hcv hcls (by decide) (by decide)
  cases hp
  have hW : WD k A s.heap (wMCo k a_th (a_in 0) (a_ou 0) (a_ru 0) (a_no 0) (a_fo 0) (a_rd 0) (a_pa 0) sv_th th_0 ++ wRules k a_ru ru_0 ++ wCourt k a_no no_0 ++ wCourt k a_fo fo_0) H locs := hW
  have hf := oT rfl hf
  refine k_aload_n E hl 0 dX8_metIn_5 rfl ?_
  refine k_iload_n E hl 2 dX8_metIn_6 rfl ?_
  obtain ⟨cd_2, hg, hf⟩ := ob hf
  refine k_callXv (As := [.int v2_0]) (rest := []) (ws2 := fun u => wMCo k a_th (a_in 0) (a_ou 0) (a_ru 0) (a_no 0) (a_fo 0) (a_rd 0) (a_pa 0) sv_th th_0 ++ wRules k a_ru ru_0 ++ wCourt k a_no no_0 ++ wCourt k a_fo fo_0) (c_X8_needTicks n l k hx a_th a_in a_ou a_ru a_no a_fo a_rd a_pa sv_th th_0 v2_0 cd_2 hg) E vl_X8_275 dX8_metIn_7 rfl [0] 6 0 hW hA hl rfl rfl rfl rfl ⟨by decide, by decide⟩ ⟨by decide, by decide⟩ (Nat.le_of_ble_eq_true rfl) rfl (fun _ => rfl) (fun _ => rfl) (fun cd9 u ce9 q9 H locs hp hW hce hcv hcls => ?_) (fun u H locs hp hW => ?_)
  · obtain ⟨hcd, hp⟩ := hp
    cases hp
    have hW : WD k A s.heap (wMCo k a_th (a_in 0) (a_ou 0) (a_ru 0) (a_no 0) (a_fo 0) (a_rd 0) (a_pa 0) sv_th th_0 ++ wRules k a_ru ru_0 ++ wCourt k a_no no_0 ++ wCourt k a_fo fo_0) H locs := hW
    have hf := oF hcd hf
    exact hout _ fo_0 _ _ _ _ _ _ _ _ _ ⟨hcd, (Option.some.inj hf).symm⟩ hW hce hcv hcls (by decide) (by decide)
  cases hp
  have hW : WD k A s.heap (wMCo k a_th (a_in 0) (a_ou 0) (a_ru 0) (a_no 0) (a_fo 0) (a_rd 0) (a_pa 0) sv_th th_0 ++ wRules k a_ru ru_0 ++ wCourt k a_no no_0 ++ wCourt k a_fo fo_0) H locs := hW
  have hf := oT rfl hf
  refine k_aload_n E hl 0 dX8_metIn_10 rfl ?_
  refine k_iload_n E hl 1 dX8_metIn_11 rfl ?_
  refine lv_iconst (v := (1 : Int32)) E.hx E.hb dX8_metIn_12 ic_1 ?_
  refine k_iload_n E hl 2 dX8_metIn_13 rfl ?_
  obtain ⟨fo_3, r_4, hg, hf⟩ := ob2 hf
  refine k_callVi (As := [.int v1_0, .int (1 : Int32), .int v2_0]) (rest := []) (ws2 := fun u => wMCo k a_th (a_in 0) (a_ou 0) (a_ru 0) (a_no 0) (a_fo 0) (a_rd 0) (a_pa 0) sv_th th_0 ++ wRules k a_ru ru_0 ++ wCourt k a_no no_0 ++ wCourt k a_fo (u)) (c_X8_ticksUntil n l k a_th a_in a_ou a_ru a_no a_fo a_rd a_pa sv_th th_0 ru_0 no_0 fo_0 v1_0 (1 : Int32) v2_0 (fo_3, r_4) hg) E vl_X8_338 dX8_metIn_14 rfl (List.range' 0 28) 6 0 hW hA hl rfl (blk_map [] (wMCo k a_th (a_in 0) (a_ou 0) (a_ru 0) (a_no 0) (a_fo 0) (a_rd 0) (a_pa 0) sv_th th_0 ++ wRules k a_ru ru_0 ++ wCourt k a_no no_0 ++ wCourt k a_fo fo_0) [] 0 28 (by simp only [List.nil_append, List.append_nil]) rfl rfl) rfl rfl ⟨by decide, by decide⟩ ⟨by decide, by decide⟩ (Nat.le_of_ble_eq_true rfl) rfl (fun _ => rfl) (fun u => by rw [blk_put [] (wMCo k a_th (a_in 0) (a_ou 0) (a_ru 0) (a_no 0) (a_fo 0) (a_rd 0) (a_pa 0) sv_th th_0 ++ wRules k a_ru ru_0 ++ wCourt k a_no no_0 ++ wCourt k a_fo fo_0) [] (wMCo k a_th (a_in 0) (a_ou 0) (a_ru 0) (a_no 0) (a_fo 0) (a_rd 0) (a_pa 0) sv_th th_0 ++ wRules k a_ru ru_0 ++ wCourt k a_no no_0 ++ wCourt k a_fo (u)) 0 28 (by simp only [List.nil_append, List.append_nil]) rfl rfl rfl]; try simp only [List.nil_append, List.append_nil]) (fun r u H locs hp hW => ?_)
  cases hp
  have hW : WD k A s.heap (wMCo k a_th (a_in 0) (a_ou 0) (a_ru 0) (a_no 0) (a_fo 0) (a_rd 0) (a_pa 0) sv_th th_0 ++ wRules k a_ru ru_0 ++ wCourt k a_no no_0 ++ wCourt k a_fo fo_3) H locs := hW
  exact hret _ fo_3 _ _ _ _ _ _ hW (Option.some.inj hf).symm rfl (by decide) (by decide) dX8_metIn_17
def f_X8_refusedIn (n : Nat) (sv_th : Value) (th_0 : OS) (ru_0 : OS) (no_0 : OS) (fo_0 : OS) (v1_0 : Int32) (v2_0 : Int32) : Option (OS × Int32 × Nat) :=
  bnd (f_X8_needClaim n sv_th th_0 no_0 v1_0) (fun (cd_1 : Nat) =>
  if cd_1 = 0 then (
  bnd (f_X8_needTicks n sv_th th_0 v2_0) (fun (cd_2 : Nat) =>
  if cd_2 = 0 then (
  bnd2 (f_X8_ticksUntil n sv_th th_0 ru_0 no_0 fo_0 v1_0 (2 : Int32) v2_0) (fun (fo_3 : OS) (r_4 : Int32) =>
  some (fo_3, r_4, 0))) else (
  some (fo_0, (0 : Int32), cd_2)))) else (
  some (fo_0, (0 : Int32), cd_1)))
set_option maxHeartbeats 4000000 in
set_option maxRecDepth 100000 in
theorem c_X8_refusedIn (n : Nat) (l : Launch) (k : KT) (hx : XH l k) (a_th : Nat → Nat) (a_in : Nat → Nat) (a_ou : Nat → Nat) (a_ru : Nat → Nat) (a_no : Nat → Nat) (a_fo : Nat → Nat) (a_rd : Nat → Nat) (a_pa : Nat → Nat) (sv_th : Value) (th_0 : OS) (ru_0 : OS) (no_0 : OS) (fo_0 : OS) (v1_0 : Int32) (v2_0 : Int32) (res : (OS × Int32 × Nat)) (hf : f_X8_refusedIn n sv_th th_0 ru_0 no_0 fo_0 v1_0 v2_0 = some res) : CX l k yX8_refusedIn cX8_refusedIn 3 (some .int) 7 2 12 169 [.ref (a_th 0), .int v1_0, .int v2_0] (wMCo k a_th (a_in 0) (a_ou 0) (a_ru 0) (a_no 0) (a_fo 0) (a_rd 0) (a_pa 0) sv_th th_0 ++ wRules k a_ru ru_0 ++ wCourt k a_no no_0 ++ wCourt k a_fo fo_0) (Qi k (fun u : OS => wMCo k a_th (a_in 0) (a_ou 0) (a_ru 0) (a_no 0) (a_fo 0) (a_rd 0) (a_pa 0) sv_th th_0 ++ wRules k a_ru ru_0 ++ wCourt k a_no no_0 ++ wCourt k a_fo u) (fun (r : Int32) (u : OS) => res = (u, r, 0))) (Xq k (fun u : OS => wMCo k a_th (a_in 0) (a_ou 0) (a_ru 0) (a_no 0) (a_fo 0) (a_rd 0) (a_pa 0) sv_th th_0 ++ wRules k a_ru ru_0 ++ wCourt k a_no no_0 ++ wCourt k a_fo u) (fun (cd : Nat) (u : OS) => cd ≠ 0 ∧ res = (u, (0 : Int32), cd))) := by
  refine CX.ofI hx rfl (by decide) (Nat.le_of_ble_eq_true rfl) (by decide) (by decide) (fun p e s m args below meth c A Q E hnm hW hA hret hout hthr ls hl => ?_)
  have hl : lv_has ls 3 [(0, .ref (a_th 0)), (1, .int v1_0), (2, .int v2_0)] := hl
  unfold f_X8_refusedIn at hf
  refine k_aload_n E hl 0 dX8_refusedIn_0 rfl ?_
  refine k_iload_n E hl 1 dX8_refusedIn_1 rfl ?_
  obtain ⟨cd_1, hg, hf⟩ := ob hf
  refine k_callXv (As := [.int v1_0]) (rest := []) (ws2 := fun u => wMCo k a_th (a_in 0) (a_ou 0) (a_ru 0) (a_no 0) (a_fo 0) (a_rd 0) (a_pa 0) sv_th th_0 ++ wRules k a_ru ru_0 ++ wCourt k a_no no_0 ++ wCourt k a_fo fo_0) (c_X8_needClaim n l k hx a_th a_in a_ou a_ru a_no a_fo a_rd a_pa sv_th th_0 no_0 v1_0 cd_1 hg) E vl_X8_217 dX8_refusedIn_2 rfl (List.range' 0 1 ++ List.range' 4 12) 6 0 hW hA hl rfl (by simp only [List.map_append]; exact app2 (blk_map [] (wMCo k a_th (a_in 0) (a_ou 0) (a_ru 0) (a_no 0) (a_fo 0) (a_rd 0) (a_pa 0) sv_th th_0) (wRules k a_ru ru_0 ++ wCourt k a_no no_0 ++ wCourt k a_fo fo_0) 0 1 (by simp only [List.append_assoc, List.nil_append, List.append_nil]) rfl rfl) (blk_map (wMCo k a_th (a_in 0) (a_ou 0) (a_ru 0) (a_no 0) (a_fo 0) (a_rd 0) (a_pa 0) sv_th th_0 ++ wRules k a_ru ru_0) (wCourt k a_no no_0) (wCourt k a_fo fo_0) 4 12 (by simp only [List.append_assoc, List.nil_append, List.append_nil]) rfl rfl)) rfl rfl ⟨by decide, by decide⟩ ⟨by decide, by decide⟩ (Nat.le_of_ble_eq_true rfl) rfl (fun _ => rfl) (fun u => by show putW _ (_ ++ _) (_ ++ _) = _; rw [putW_app _ _ _ _ _ rfl, blk_put [] (wMCo k a_th (a_in 0) (a_ou 0) (a_ru 0) (a_no 0) (a_fo 0) (a_rd 0) (a_pa 0) sv_th th_0) (wRules k a_ru ru_0 ++ wCourt k a_no no_0 ++ wCourt k a_fo fo_0) (wMCo k a_th (a_in 0) (a_ou 0) (a_ru 0) (a_no 0) (a_fo 0) (a_rd 0) (a_pa 0) sv_th th_0) 0 1 (by simp only [List.append_assoc, List.nil_append, List.append_nil]) rfl rfl rfl, blk_put (wMCo k a_th (a_in 0) (a_ou 0) (a_ru 0) (a_no 0) (a_fo 0) (a_rd 0) (a_pa 0) sv_th th_0 ++ wRules k a_ru ru_0) (wCourt k a_no no_0) (wCourt k a_fo fo_0) (wCourt k a_no no_0) 4 12 (by simp only [List.append_assoc, List.nil_append, List.append_nil]) rfl rfl rfl]; try simp only [List.append_assoc, List.nil_append, List.append_nil]) (fun cd9 u ce9 q9 H locs hp hW hce hcv hcls => ?_) (fun u H locs hp hW => ?_)
  · obtain ⟨hcd, hp⟩ := hp
    cases hp
    have hW : WD k A s.heap (wMCo k a_th (a_in 0) (a_ou 0) (a_ru 0) (a_no 0) (a_fo 0) (a_rd 0) (a_pa 0) sv_th th_0 ++ wRules k a_ru ru_0 ++ wCourt k a_no no_0 ++ wCourt k a_fo fo_0) H locs := hW
    have hf := oF hcd hf
    exact hout _ fo_0 _ _ _ _ _ _ _ _ _ ⟨hcd, (Option.some.inj hf).symm⟩ hW hce hcv hcls (by decide) (by decide)
  cases hp
  have hW : WD k A s.heap (wMCo k a_th (a_in 0) (a_ou 0) (a_ru 0) (a_no 0) (a_fo 0) (a_rd 0) (a_pa 0) sv_th th_0 ++ wRules k a_ru ru_0 ++ wCourt k a_no no_0 ++ wCourt k a_fo fo_0) H locs := hW
  have hf := oT rfl hf
  refine k_aload_n E hl 0 dX8_refusedIn_5 rfl ?_
  refine k_iload_n E hl 2 dX8_refusedIn_6 rfl ?_
  obtain ⟨cd_2, hg, hf⟩ := ob hf
  refine k_callXv (As := [.int v2_0]) (rest := []) (ws2 := fun u => wMCo k a_th (a_in 0) (a_ou 0) (a_ru 0) (a_no 0) (a_fo 0) (a_rd 0) (a_pa 0) sv_th th_0 ++ wRules k a_ru ru_0 ++ wCourt k a_no no_0 ++ wCourt k a_fo fo_0) (c_X8_needTicks n l k hx a_th a_in a_ou a_ru a_no a_fo a_rd a_pa sv_th th_0 v2_0 cd_2 hg) E vl_X8_275 dX8_refusedIn_7 rfl [0] 6 0 hW hA hl rfl rfl rfl rfl ⟨by decide, by decide⟩ ⟨by decide, by decide⟩ (Nat.le_of_ble_eq_true rfl) rfl (fun _ => rfl) (fun _ => rfl) (fun cd9 u ce9 q9 H locs hp hW hce hcv hcls => ?_) (fun u H locs hp hW => ?_)
  · obtain ⟨hcd, hp⟩ := hp
    cases hp
    have hW : WD k A s.heap (wMCo k a_th (a_in 0) (a_ou 0) (a_ru 0) (a_no 0) (a_fo 0) (a_rd 0) (a_pa 0) sv_th th_0 ++ wRules k a_ru ru_0 ++ wCourt k a_no no_0 ++ wCourt k a_fo fo_0) H locs := hW
    have hf := oF hcd hf
    exact hout _ fo_0 _ _ _ _ _ _ _ _ _ ⟨hcd, (Option.some.inj hf).symm⟩ hW hce hcv hcls (by decide) (by decide)
  cases hp
  have hW : WD k A s.heap (wMCo k a_th (a_in 0) (a_ou 0) (a_ru 0) (a_no 0) (a_fo 0) (a_rd 0) (a_pa 0) sv_th th_0 ++ wRules k a_ru ru_0 ++ wCourt k a_no no_0 ++ wCourt k a_fo fo_0) H locs := hW
  have hf := oT rfl hf
  refine k_aload_n E hl 0 dX8_refusedIn_10 rfl ?_
  refine k_iload_n E hl 1 dX8_refusedIn_11 rfl ?_
  refine lv_iconst (v := (2 : Int32)) E.hx E.hb dX8_refusedIn_12 ic_2 ?_
  refine k_iload_n E hl 2 dX8_refusedIn_13 rfl ?_
  obtain ⟨fo_3, r_4, hg, hf⟩ := ob2 hf
  refine k_callVi (As := [.int v1_0, .int (2 : Int32), .int v2_0]) (rest := []) (ws2 := fun u => wMCo k a_th (a_in 0) (a_ou 0) (a_ru 0) (a_no 0) (a_fo 0) (a_rd 0) (a_pa 0) sv_th th_0 ++ wRules k a_ru ru_0 ++ wCourt k a_no no_0 ++ wCourt k a_fo (u)) (c_X8_ticksUntil n l k a_th a_in a_ou a_ru a_no a_fo a_rd a_pa sv_th th_0 ru_0 no_0 fo_0 v1_0 (2 : Int32) v2_0 (fo_3, r_4) hg) E vl_X8_338 dX8_refusedIn_14 rfl (List.range' 0 28) 6 0 hW hA hl rfl (blk_map [] (wMCo k a_th (a_in 0) (a_ou 0) (a_ru 0) (a_no 0) (a_fo 0) (a_rd 0) (a_pa 0) sv_th th_0 ++ wRules k a_ru ru_0 ++ wCourt k a_no no_0 ++ wCourt k a_fo fo_0) [] 0 28 (by simp only [List.nil_append, List.append_nil]) rfl rfl) rfl rfl ⟨by decide, by decide⟩ ⟨by decide, by decide⟩ (Nat.le_of_ble_eq_true rfl) rfl (fun _ => rfl) (fun u => by rw [blk_put [] (wMCo k a_th (a_in 0) (a_ou 0) (a_ru 0) (a_no 0) (a_fo 0) (a_rd 0) (a_pa 0) sv_th th_0 ++ wRules k a_ru ru_0 ++ wCourt k a_no no_0 ++ wCourt k a_fo fo_0) [] (wMCo k a_th (a_in 0) (a_ou 0) (a_ru 0) (a_no 0) (a_fo 0) (a_rd 0) (a_pa 0) sv_th th_0 ++ wRules k a_ru ru_0 ++ wCourt k a_no no_0 ++ wCourt k a_fo (u)) 0 28 (by simp only [List.nil_append, List.append_nil]) rfl rfl rfl]; try simp only [List.nil_append, List.append_nil]) (fun r u H locs hp hW => ?_)
  cases hp
  have hW : WD k A s.heap (wMCo k a_th (a_in 0) (a_ou 0) (a_ru 0) (a_no 0) (a_fo 0) (a_rd 0) (a_pa 0) sv_th th_0 ++ wRules k a_ru ru_0 ++ wCourt k a_no no_0 ++ wCourt k a_fo fo_3) H locs := hW
  exact hret _ fo_3 _ _ _ _ _ _ hW (Option.some.inj hf).symm rfl (by decide) (by decide) dX8_refusedIn_17
def f_X8_wouldFine (n : Nat) (sv_th : Value) (th_0 : OS) (ru_0 : OS) (no_0 : OS) (fo_0 : OS) (v1_0 : Int32) : Option (OS × Int32 × Nat) :=
  bnd (f_X8_needLoan n sv_th th_0 no_0 v1_0) (fun (cd_1 : Nat) =>
  if cd_1 = 0 then (
  bnd (f_X8_nextHearing n sv_th th_0 ru_0 no_0) (fun (r_2 : Int32) =>
  if r_2 = (-1 : Int32) then (
  some (fo_0, (0 : Int32), 0)) else (
  bnd (f_X2_copyFrom n fo_0 no_0) (fun (fo_3 : OS) =>
  bnd (f_X8_passToHearing n sv_th th_0 ru_0 no_0 fo_3) (fun (fo_4 : OS) =>
  bnd (f_X6_get n (8 : Int32) 640 (fo_4.2.1 12) v1_0 (5 : Int32)) (fun (r_5 : Int32) =>
  some (fo_4, r_5, 0))))))) else (
  some (fo_0, (0 : Int32), cd_1)))
set_option maxHeartbeats 4000000 in
set_option maxRecDepth 100000 in
theorem c_X8_wouldFine (n : Nat) (l : Launch) (k : KT) (hx : XH l k) (a_th : Nat → Nat) (a_in : Nat → Nat) (a_ou : Nat → Nat) (a_ru : Nat → Nat) (a_no : Nat → Nat) (a_fo : Nat → Nat) (a_rd : Nat → Nat) (a_pa : Nat → Nat) (sv_th : Value) (th_0 : OS) (ru_0 : OS) (no_0 : OS) (fo_0 : OS) (v1_0 : Int32) (res : (OS × Int32 × Nat)) (hf : f_X8_wouldFine n sv_th th_0 ru_0 no_0 fo_0 v1_0 = some res) : CX l k yX8_wouldFine cX8_wouldFine 2 (some .int) 7 1 6 166 [.ref (a_th 0), .int v1_0] (wMCo k a_th (a_in 0) (a_ou 0) (a_ru 0) (a_no 0) (a_fo 0) (a_rd 0) (a_pa 0) sv_th th_0 ++ wRules k a_ru ru_0 ++ wCourt k a_no no_0 ++ wCourt k a_fo fo_0) (Qi k (fun u : OS => wMCo k a_th (a_in 0) (a_ou 0) (a_ru 0) (a_no 0) (a_fo 0) (a_rd 0) (a_pa 0) sv_th th_0 ++ wRules k a_ru ru_0 ++ wCourt k a_no no_0 ++ wCourt k a_fo u) (fun (r : Int32) (u : OS) => res = (u, r, 0))) (Xq k (fun u : OS => wMCo k a_th (a_in 0) (a_ou 0) (a_ru 0) (a_no 0) (a_fo 0) (a_rd 0) (a_pa 0) sv_th th_0 ++ wRules k a_ru ru_0 ++ wCourt k a_no no_0 ++ wCourt k a_fo u) (fun (cd : Nat) (u : OS) => cd ≠ 0 ∧ res = (u, (0 : Int32), cd))) := by
  refine CX.ofI hx rfl (by decide) (Nat.le_of_ble_eq_true rfl) (by decide) (by decide) (fun p e s m args below meth c A Q E hnm hW hA hret hout hthr ls hl => ?_)
  have hl : lv_has ls 2 [(0, .ref (a_th 0)), (1, .int v1_0)] := hl
  unfold f_X8_wouldFine at hf
  refine k_aload_n E hl 0 dX8_wouldFine_0 rfl ?_
  refine k_iload_n E hl 1 dX8_wouldFine_1 rfl ?_
  obtain ⟨cd_1, hg, hf⟩ := ob hf
  refine k_callXv (As := [.int v1_0]) (rest := []) (ws2 := fun u => wMCo k a_th (a_in 0) (a_ou 0) (a_ru 0) (a_no 0) (a_fo 0) (a_rd 0) (a_pa 0) sv_th th_0 ++ wRules k a_ru ru_0 ++ wCourt k a_no no_0 ++ wCourt k a_fo fo_0) (c_X8_needLoan n l k hx a_th a_in a_ou a_ru a_no a_fo a_rd a_pa sv_th th_0 no_0 v1_0 cd_1 hg) E vl_X8_186 dX8_wouldFine_2 rfl (List.range' 0 1 ++ List.range' 4 12) 6 0 hW hA hl rfl (by simp only [List.map_append]; exact app2 (blk_map [] (wMCo k a_th (a_in 0) (a_ou 0) (a_ru 0) (a_no 0) (a_fo 0) (a_rd 0) (a_pa 0) sv_th th_0) (wRules k a_ru ru_0 ++ wCourt k a_no no_0 ++ wCourt k a_fo fo_0) 0 1 (by simp only [List.append_assoc, List.nil_append, List.append_nil]) rfl rfl) (blk_map (wMCo k a_th (a_in 0) (a_ou 0) (a_ru 0) (a_no 0) (a_fo 0) (a_rd 0) (a_pa 0) sv_th th_0 ++ wRules k a_ru ru_0) (wCourt k a_no no_0) (wCourt k a_fo fo_0) 4 12 (by simp only [List.append_assoc, List.nil_append, List.append_nil]) rfl rfl)) rfl rfl ⟨by decide, by decide⟩ ⟨by decide, by decide⟩ (Nat.le_of_ble_eq_true rfl) rfl (fun _ => rfl) (fun u => by show putW _ (_ ++ _) (_ ++ _) = _; rw [putW_app _ _ _ _ _ rfl, blk_put [] (wMCo k a_th (a_in 0) (a_ou 0) (a_ru 0) (a_no 0) (a_fo 0) (a_rd 0) (a_pa 0) sv_th th_0) (wRules k a_ru ru_0 ++ wCourt k a_no no_0 ++ wCourt k a_fo fo_0) (wMCo k a_th (a_in 0) (a_ou 0) (a_ru 0) (a_no 0) (a_fo 0) (a_rd 0) (a_pa 0) sv_th th_0) 0 1 (by simp only [List.append_assoc, List.nil_append, List.append_nil]) rfl rfl rfl, blk_put (wMCo k a_th (a_in 0) (a_ou 0) (a_ru 0) (a_no 0) (a_fo 0) (a_rd 0) (a_pa 0) sv_th th_0 ++ wRules k a_ru ru_0) (wCourt k a_no no_0) (wCourt k a_fo fo_0) (wCourt k a_no no_0) 4 12 (by simp only [List.append_assoc, List.nil_append, List.append_nil]) rfl rfl rfl]; try simp only [List.append_assoc, List.nil_append, List.append_nil]) (fun cd9 u ce9 q9 H locs hp hW hce hcv hcls => ?_) (fun u H locs hp hW => ?_)
  · obtain ⟨hcd, hp⟩ := hp
    cases hp
    have hW : WD k A s.heap (wMCo k a_th (a_in 0) (a_ou 0) (a_ru 0) (a_no 0) (a_fo 0) (a_rd 0) (a_pa 0) sv_th th_0 ++ wRules k a_ru ru_0 ++ wCourt k a_no no_0 ++ wCourt k a_fo fo_0) H locs := hW
    have hf := oF hcd hf
    exact hout _ fo_0 _ _ _ _ _ _ _ _ _ ⟨hcd, (Option.some.inj hf).symm⟩ hW hce hcv hcls (by decide) (by decide)
  cases hp
  have hW : WD k A s.heap (wMCo k a_th (a_in 0) (a_ou 0) (a_ru 0) (a_no 0) (a_fo 0) (a_rd 0) (a_pa 0) sv_th th_0 ++ wRules k a_ru ru_0 ++ wCourt k a_no no_0 ++ wCourt k a_fo fo_0) H locs := hW
  have hf := oT rfl hf
  refine k_aload_n E hl 0 dX8_wouldFine_5 rfl ?_
  obtain ⟨r_2, hg, hf⟩ := ob hf
  refine k_callVi (As := []) (rest := []) (ws2 := fun u => wMCo k a_th (a_in 0) (a_ou 0) (a_ru 0) (a_no 0) (a_fo 0) (a_rd 0) (a_pa 0) sv_th th_0 ++ wRules k a_ru ru_0 ++ wCourt k a_no no_0 ++ wCourt k a_fo fo_0) (c_X8_nextHearing n l k a_th a_in a_ou a_ru a_no a_fo a_rd a_pa sv_th th_0 ru_0 no_0 r_2 hg) E vl_X8_341 dX8_wouldFine_6 rfl (List.range' 0 1 ++ List.range' 1 3 ++ List.range' 4 12) 6 0 hW hA hl rfl (by simp only [List.map_append]; exact app2 (app2 (blk_map [] (wMCo k a_th (a_in 0) (a_ou 0) (a_ru 0) (a_no 0) (a_fo 0) (a_rd 0) (a_pa 0) sv_th th_0) (wRules k a_ru ru_0 ++ wCourt k a_no no_0 ++ wCourt k a_fo fo_0) 0 1 (by simp only [List.append_assoc, List.nil_append, List.append_nil]) rfl rfl) (blk_map (wMCo k a_th (a_in 0) (a_ou 0) (a_ru 0) (a_no 0) (a_fo 0) (a_rd 0) (a_pa 0) sv_th th_0) (wRules k a_ru ru_0) (wCourt k a_no no_0 ++ wCourt k a_fo fo_0) 1 3 (by simp only [List.append_assoc, List.nil_append, List.append_nil]) rfl rfl)) (blk_map (wMCo k a_th (a_in 0) (a_ou 0) (a_ru 0) (a_no 0) (a_fo 0) (a_rd 0) (a_pa 0) sv_th th_0 ++ wRules k a_ru ru_0) (wCourt k a_no no_0) (wCourt k a_fo fo_0) 4 12 (by simp only [List.append_assoc, List.nil_append, List.append_nil]) rfl rfl)) rfl rfl ⟨by decide, by decide⟩ ⟨by decide, by decide⟩ (Nat.le_of_ble_eq_true rfl) rfl (fun _ => rfl) (fun u => by show putW _ (_ ++ _) (_ ++ _) = _; rw [putW_app _ _ _ _ _ rfl, putW_app _ _ _ _ _ rfl, blk_put [] (wMCo k a_th (a_in 0) (a_ou 0) (a_ru 0) (a_no 0) (a_fo 0) (a_rd 0) (a_pa 0) sv_th th_0) (wRules k a_ru ru_0 ++ wCourt k a_no no_0 ++ wCourt k a_fo fo_0) (wMCo k a_th (a_in 0) (a_ou 0) (a_ru 0) (a_no 0) (a_fo 0) (a_rd 0) (a_pa 0) sv_th th_0) 0 1 (by simp only [List.append_assoc, List.nil_append, List.append_nil]) rfl rfl rfl, blk_put (wMCo k a_th (a_in 0) (a_ou 0) (a_ru 0) (a_no 0) (a_fo 0) (a_rd 0) (a_pa 0) sv_th th_0) (wRules k a_ru ru_0) (wCourt k a_no no_0 ++ wCourt k a_fo fo_0) (wRules k a_ru ru_0) 1 3 (by simp only [List.append_assoc, List.nil_append, List.append_nil]) rfl rfl rfl, blk_put (wMCo k a_th (a_in 0) (a_ou 0) (a_ru 0) (a_no 0) (a_fo 0) (a_rd 0) (a_pa 0) sv_th th_0 ++ wRules k a_ru ru_0) (wCourt k a_no no_0) (wCourt k a_fo fo_0) (wCourt k a_no no_0) 4 12 (by simp only [List.append_assoc, List.nil_append, List.append_nil]) rfl rfl rfl]; try simp only [List.append_assoc, List.nil_append, List.append_nil]) (fun r u H locs hp hW => ?_)
  cases hp
  have hW : WD k A s.heap (wMCo k a_th (a_in 0) (a_ou 0) (a_ru 0) (a_no 0) (a_fo 0) (a_rd 0) (a_pa 0) sv_th th_0 ++ wRules k a_ru ru_0 ++ wCourt k a_no no_0 ++ wCourt k a_fo fo_0) H locs := hW
  refine lv_iconst (v := (-1 : Int32)) E.hx E.hb dX8_wouldFine_9 ic_m1 ?_
  refine lv_icmp_ne (tgt := 15) E.hx E.hb dX8_wouldFine_10 (by decide) (fun hc => ?_) (fun hc => ?_)
  · have hf := oF hc hf
    refine k_aload_n E hl 0 dX8_wouldFine_15 rfl ?_
    refine gf_X8_35 E hW 0 rfl rfl dX8_wouldFine_16 ?_
    refine k_aload_n E hl 0 dX8_wouldFine_19 rfl ?_
    refine gf_X8_31 E hW 0 rfl rfl dX8_wouldFine_20 ?_
    obtain ⟨fo_3, hg, hf⟩ := ob hf
    refine k_callVv (As := [.ref (a_no 0)]) (rest := []) (ws2 := fun u => wMCo k a_th (a_in 0) (a_ou 0) (a_ru 0) (a_no 0) (a_fo 0) (a_rd 0) (a_pa 0) sv_th th_0 ++ wRules k a_ru ru_0 ++ wCourt k a_no no_0 ++ wCourt k a_fo (u)) (c_X2_copyFrom n l k a_fo a_no fo_0 no_0 fo_3 hg) E vl_X8_90 dX8_wouldFine_23 rfl (List.range' 16 12 ++ List.range' 4 12) 1 16 hW hA hl rfl (by simp only [List.map_append]; exact app2 (blk_map (wMCo k a_th (a_in 0) (a_ou 0) (a_ru 0) (a_no 0) (a_fo 0) (a_rd 0) (a_pa 0) sv_th th_0 ++ wRules k a_ru ru_0 ++ wCourt k a_no no_0) (wCourt k a_fo fo_0) [] 16 12 (by simp only [List.append_assoc, List.nil_append, List.append_nil]) rfl rfl) (blk_map (wMCo k a_th (a_in 0) (a_ou 0) (a_ru 0) (a_no 0) (a_fo 0) (a_rd 0) (a_pa 0) sv_th th_0 ++ wRules k a_ru ru_0) (wCourt k a_no no_0) (wCourt k a_fo fo_0) 4 12 (by simp only [List.append_assoc, List.nil_append, List.append_nil]) rfl rfl)) rfl rfl ⟨by decide, by decide⟩ ⟨by decide, by decide⟩ (Nat.le_of_ble_eq_true rfl) rfl (fun _ => rfl) (fun u => by show putW _ (_ ++ _) (_ ++ _) = _; rw [putW_app _ _ _ _ _ rfl, blk_put (wMCo k a_th (a_in 0) (a_ou 0) (a_ru 0) (a_no 0) (a_fo 0) (a_rd 0) (a_pa 0) sv_th th_0 ++ wRules k a_ru ru_0 ++ wCourt k a_no no_0) (wCourt k a_fo fo_0) [] (wCourt k a_fo (u)) 16 12 (by simp only [List.append_assoc, List.nil_append, List.append_nil]) rfl rfl rfl, blk_put (wMCo k a_th (a_in 0) (a_ou 0) (a_ru 0) (a_no 0) (a_fo 0) (a_rd 0) (a_pa 0) sv_th th_0 ++ wRules k a_ru ru_0) (wCourt k a_no no_0) (wCourt k a_fo (u)) (wCourt k a_no no_0) 4 12 (by simp only [List.append_assoc, List.nil_append, List.append_nil]) rfl rfl rfl]; try simp only [List.append_assoc, List.nil_append, List.append_nil]) (fun u H locs hp hW => ?_)
    cases hp
    have hW : WD k A s.heap (wMCo k a_th (a_in 0) (a_ou 0) (a_ru 0) (a_no 0) (a_fo 0) (a_rd 0) (a_pa 0) sv_th th_0 ++ wRules k a_ru ru_0 ++ wCourt k a_no no_0 ++ wCourt k a_fo fo_3) H locs := hW
    refine k_aload_n E hl 0 dX8_wouldFine_26 rfl ?_
    obtain ⟨fo_4, hg, hf⟩ := ob hf
    refine k_callVv (As := []) (rest := []) (ws2 := fun u => wMCo k a_th (a_in 0) (a_ou 0) (a_ru 0) (a_no 0) (a_fo 0) (a_rd 0) (a_pa 0) sv_th th_0 ++ wRules k a_ru ru_0 ++ wCourt k a_no no_0 ++ wCourt k a_fo (u)) (c_X8_passToHearing n l k a_th a_in a_ou a_ru a_no a_fo a_rd a_pa sv_th th_0 ru_0 no_0 fo_3 fo_4 hg) E vl_X8_344 dX8_wouldFine_27 rfl (List.range' 0 28) 6 0 hW hA hl rfl (blk_map [] (wMCo k a_th (a_in 0) (a_ou 0) (a_ru 0) (a_no 0) (a_fo 0) (a_rd 0) (a_pa 0) sv_th th_0 ++ wRules k a_ru ru_0 ++ wCourt k a_no no_0 ++ wCourt k a_fo fo_3) [] 0 28 (by simp only [List.nil_append, List.append_nil]) rfl rfl) rfl rfl ⟨by decide, by decide⟩ ⟨by decide, by decide⟩ (Nat.le_of_ble_eq_true rfl) rfl (fun _ => rfl) (fun u => by rw [blk_put [] (wMCo k a_th (a_in 0) (a_ou 0) (a_ru 0) (a_no 0) (a_fo 0) (a_rd 0) (a_pa 0) sv_th th_0 ++ wRules k a_ru ru_0 ++ wCourt k a_no no_0 ++ wCourt k a_fo fo_3) [] (wMCo k a_th (a_in 0) (a_ou 0) (a_ru 0) (a_no 0) (a_fo 0) (a_rd 0) (a_pa 0) sv_th th_0 ++ wRules k a_ru ru_0 ++ wCourt k a_no no_0 ++ wCourt k a_fo (u)) 0 28 (by simp only [List.nil_append, List.append_nil]) rfl rfl rfl]; try simp only [List.nil_append, List.append_nil]) (fun u H locs hp hW => ?_)
    cases hp
    have hW : WD k A s.heap (wMCo k a_th (a_in 0) (a_ou 0) (a_ru 0) (a_no 0) (a_fo 0) (a_rd 0) (a_pa 0) sv_th th_0 ++ wRules k a_ru ru_0 ++ wCourt k a_no no_0 ++ wCourt k a_fo fo_4) H locs := hW
    refine k_aload_n E hl 0 dX8_wouldFine_30 rfl ?_
    refine gf_X8_35 E hW 0 rfl rfl dX8_wouldFine_31 ?_
    refine gf_X8_195 E hW 16 rfl rfl dX8_wouldFine_34 ?_
    refine k_iload_n E hl 1 dX8_wouldFine_37 rfl ?_
    refine lv_iconst (v := (5 : Int32)) E.hx E.hb dX8_wouldFine_38 ic_5 ?_
    obtain ⟨r_5, hg, hf⟩ := ob hf
    refine k_callVi (As := [.int v1_0, .int (5 : Int32)]) (rest := []) (ws2 := fun u => wMCo k a_th (a_in 0) (a_ou 0) (a_ru 0) (a_no 0) (a_fo 0) (a_rd 0) (a_pa 0) sv_th th_0 ++ wRules k a_ru ru_0 ++ wCourt k a_no no_0 ++ wCourt k a_fo fo_4) (c_X6_get n l k (fun j => a_fo (5 + j)) (8 : Int32) 640 (fo_4.2.1 12) v1_0 (5 : Int32) r_5 hg) E vl_X8_171 dX8_wouldFine_39 rfl [21, 22] 5 21 hW hA hl rfl rfl rfl rfl ⟨by decide, by decide⟩ ⟨by decide, by decide⟩ (Nat.le_of_ble_eq_true rfl) rfl (fun _ => rfl) (fun _ => rfl) (fun r u H locs hp hW => ?_)
    cases hp
    have hW : WD k A s.heap (wMCo k a_th (a_in 0) (a_ou 0) (a_ru 0) (a_no 0) (a_fo 0) (a_rd 0) (a_pa 0) sv_th th_0 ++ wRules k a_ru ru_0 ++ wCourt k a_no no_0 ++ wCourt k a_fo fo_4) H locs := hW
    exact hret _ fo_4 _ _ _ _ _ _ hW (Option.some.inj hf).symm rfl (by decide) (by decide) dX8_wouldFine_42
  · have hf := oT hc hf
    refine lv_iconst (v := (0 : Int32)) E.hx E.hb dX8_wouldFine_13 ic_0 ?_
    exact hret _ fo_0 _ _ _ _ _ _ hW (Option.some.inj hf).symm rfl (by decide) (by decide) dX8_wouldFine_14
def f_X8_wouldPay (n : Nat) (sv_th : Value) (th_0 : OS) (ru_0 : OS) (no_0 : OS) (fo_0 : OS) (v1_0 : Int32) : Option (OS × Int32 × Nat) :=
  bnd (f_X8_needProcess n sv_th th_0 ru_0 v1_0) (fun (cd_1 : Nat) =>
  if cd_1 = 0 then (
  bnd (f_X8_nextHearing n sv_th th_0 ru_0 no_0) (fun (r_2 : Int32) =>
  if r_2 = (-1 : Int32) then (
  some (fo_0, (0 : Int32), 0)) else (
  bnd (f_X2_copyFrom n fo_0 no_0) (fun (fo_3 : OS) =>
  bnd (f_X8_passToHearing n sv_th th_0 ru_0 no_0 fo_3) (fun (fo_4 : OS) =>
  bnd (f_X2_latestFines n fo_4 v1_0) (fun (r_5 : Int32) =>
  some (fo_4, r_5, 0))))))) else (
  some (fo_0, (0 : Int32), cd_1)))
set_option maxHeartbeats 4000000 in
set_option maxRecDepth 100000 in
theorem c_X8_wouldPay (n : Nat) (l : Launch) (k : KT) (hx : XH l k) (a_th : Nat → Nat) (a_in : Nat → Nat) (a_ou : Nat → Nat) (a_ru : Nat → Nat) (a_no : Nat → Nat) (a_fo : Nat → Nat) (a_rd : Nat → Nat) (a_pa : Nat → Nat) (sv_th : Value) (th_0 : OS) (ru_0 : OS) (no_0 : OS) (fo_0 : OS) (v1_0 : Int32) (res : (OS × Int32 × Nat)) (hf : f_X8_wouldPay n sv_th th_0 ru_0 no_0 fo_0 v1_0 = some res) : CX l k yX8_wouldPay cX8_wouldPay 2 (some .int) 7 1 6 166 [.ref (a_th 0), .int v1_0] (wMCo k a_th (a_in 0) (a_ou 0) (a_ru 0) (a_no 0) (a_fo 0) (a_rd 0) (a_pa 0) sv_th th_0 ++ wRules k a_ru ru_0 ++ wCourt k a_no no_0 ++ wCourt k a_fo fo_0) (Qi k (fun u : OS => wMCo k a_th (a_in 0) (a_ou 0) (a_ru 0) (a_no 0) (a_fo 0) (a_rd 0) (a_pa 0) sv_th th_0 ++ wRules k a_ru ru_0 ++ wCourt k a_no no_0 ++ wCourt k a_fo u) (fun (r : Int32) (u : OS) => res = (u, r, 0))) (Xq k (fun u : OS => wMCo k a_th (a_in 0) (a_ou 0) (a_ru 0) (a_no 0) (a_fo 0) (a_rd 0) (a_pa 0) sv_th th_0 ++ wRules k a_ru ru_0 ++ wCourt k a_no no_0 ++ wCourt k a_fo u) (fun (cd : Nat) (u : OS) => cd ≠ 0 ∧ res = (u, (0 : Int32), cd))) := by
  refine CX.ofI hx rfl (by decide) (Nat.le_of_ble_eq_true rfl) (by decide) (by decide) (fun p e s m args below meth c A Q E hnm hW hA hret hout hthr ls hl => ?_)
  have hl : lv_has ls 2 [(0, .ref (a_th 0)), (1, .int v1_0)] := hl
  unfold f_X8_wouldPay at hf
  refine k_aload_n E hl 0 dX8_wouldPay_0 rfl ?_
  refine k_iload_n E hl 1 dX8_wouldPay_1 rfl ?_
  obtain ⟨cd_1, hg, hf⟩ := ob hf
  refine k_callXv (As := [.int v1_0]) (rest := []) (ws2 := fun u => wMCo k a_th (a_in 0) (a_ou 0) (a_ru 0) (a_no 0) (a_fo 0) (a_rd 0) (a_pa 0) sv_th th_0 ++ wRules k a_ru ru_0 ++ wCourt k a_no no_0 ++ wCourt k a_fo fo_0) (c_X8_needProcess n l k hx a_th a_in a_ou a_ru a_no a_fo a_rd a_pa sv_th th_0 ru_0 v1_0 cd_1 hg) E vl_X8_165 dX8_wouldPay_2 rfl [0, 1, 2, 3] 6 0 hW hA hl rfl rfl rfl rfl ⟨by decide, by decide⟩ ⟨by decide, by decide⟩ (Nat.le_of_ble_eq_true rfl) rfl (fun _ => rfl) (fun _ => rfl) (fun cd9 u ce9 q9 H locs hp hW hce hcv hcls => ?_) (fun u H locs hp hW => ?_)
  · obtain ⟨hcd, hp⟩ := hp
    cases hp
    have hW : WD k A s.heap (wMCo k a_th (a_in 0) (a_ou 0) (a_ru 0) (a_no 0) (a_fo 0) (a_rd 0) (a_pa 0) sv_th th_0 ++ wRules k a_ru ru_0 ++ wCourt k a_no no_0 ++ wCourt k a_fo fo_0) H locs := hW
    have hf := oF hcd hf
    exact hout _ fo_0 _ _ _ _ _ _ _ _ _ ⟨hcd, (Option.some.inj hf).symm⟩ hW hce hcv hcls (by decide) (by decide)
  cases hp
  have hW : WD k A s.heap (wMCo k a_th (a_in 0) (a_ou 0) (a_ru 0) (a_no 0) (a_fo 0) (a_rd 0) (a_pa 0) sv_th th_0 ++ wRules k a_ru ru_0 ++ wCourt k a_no no_0 ++ wCourt k a_fo fo_0) H locs := hW
  have hf := oT rfl hf
  refine k_aload_n E hl 0 dX8_wouldPay_5 rfl ?_
  obtain ⟨r_2, hg, hf⟩ := ob hf
  refine k_callVi (As := []) (rest := []) (ws2 := fun u => wMCo k a_th (a_in 0) (a_ou 0) (a_ru 0) (a_no 0) (a_fo 0) (a_rd 0) (a_pa 0) sv_th th_0 ++ wRules k a_ru ru_0 ++ wCourt k a_no no_0 ++ wCourt k a_fo fo_0) (c_X8_nextHearing n l k a_th a_in a_ou a_ru a_no a_fo a_rd a_pa sv_th th_0 ru_0 no_0 r_2 hg) E vl_X8_341 dX8_wouldPay_6 rfl (List.range' 0 1 ++ List.range' 1 3 ++ List.range' 4 12) 6 0 hW hA hl rfl (by simp only [List.map_append]; exact app2 (app2 (blk_map [] (wMCo k a_th (a_in 0) (a_ou 0) (a_ru 0) (a_no 0) (a_fo 0) (a_rd 0) (a_pa 0) sv_th th_0) (wRules k a_ru ru_0 ++ wCourt k a_no no_0 ++ wCourt k a_fo fo_0) 0 1 (by simp only [List.append_assoc, List.nil_append, List.append_nil]) rfl rfl) (blk_map (wMCo k a_th (a_in 0) (a_ou 0) (a_ru 0) (a_no 0) (a_fo 0) (a_rd 0) (a_pa 0) sv_th th_0) (wRules k a_ru ru_0) (wCourt k a_no no_0 ++ wCourt k a_fo fo_0) 1 3 (by simp only [List.append_assoc, List.nil_append, List.append_nil]) rfl rfl)) (blk_map (wMCo k a_th (a_in 0) (a_ou 0) (a_ru 0) (a_no 0) (a_fo 0) (a_rd 0) (a_pa 0) sv_th th_0 ++ wRules k a_ru ru_0) (wCourt k a_no no_0) (wCourt k a_fo fo_0) 4 12 (by simp only [List.append_assoc, List.nil_append, List.append_nil]) rfl rfl)) rfl rfl ⟨by decide, by decide⟩ ⟨by decide, by decide⟩ (Nat.le_of_ble_eq_true rfl) rfl (fun _ => rfl) (fun u => by show putW _ (_ ++ _) (_ ++ _) = _; rw [putW_app _ _ _ _ _ rfl, putW_app _ _ _ _ _ rfl, blk_put [] (wMCo k a_th (a_in 0) (a_ou 0) (a_ru 0) (a_no 0) (a_fo 0) (a_rd 0) (a_pa 0) sv_th th_0) (wRules k a_ru ru_0 ++ wCourt k a_no no_0 ++ wCourt k a_fo fo_0) (wMCo k a_th (a_in 0) (a_ou 0) (a_ru 0) (a_no 0) (a_fo 0) (a_rd 0) (a_pa 0) sv_th th_0) 0 1 (by simp only [List.append_assoc, List.nil_append, List.append_nil]) rfl rfl rfl, blk_put (wMCo k a_th (a_in 0) (a_ou 0) (a_ru 0) (a_no 0) (a_fo 0) (a_rd 0) (a_pa 0) sv_th th_0) (wRules k a_ru ru_0) (wCourt k a_no no_0 ++ wCourt k a_fo fo_0) (wRules k a_ru ru_0) 1 3 (by simp only [List.append_assoc, List.nil_append, List.append_nil]) rfl rfl rfl, blk_put (wMCo k a_th (a_in 0) (a_ou 0) (a_ru 0) (a_no 0) (a_fo 0) (a_rd 0) (a_pa 0) sv_th th_0 ++ wRules k a_ru ru_0) (wCourt k a_no no_0) (wCourt k a_fo fo_0) (wCourt k a_no no_0) 4 12 (by simp only [List.append_assoc, List.nil_append, List.append_nil]) rfl rfl rfl]; try simp only [List.append_assoc, List.nil_append, List.append_nil]) (fun r u H locs hp hW => ?_)
  cases hp
  have hW : WD k A s.heap (wMCo k a_th (a_in 0) (a_ou 0) (a_ru 0) (a_no 0) (a_fo 0) (a_rd 0) (a_pa 0) sv_th th_0 ++ wRules k a_ru ru_0 ++ wCourt k a_no no_0 ++ wCourt k a_fo fo_0) H locs := hW
  refine lv_iconst (v := (-1 : Int32)) E.hx E.hb dX8_wouldPay_9 ic_m1 ?_
  refine lv_icmp_ne (tgt := 15) E.hx E.hb dX8_wouldPay_10 (by decide) (fun hc => ?_) (fun hc => ?_)
  · have hf := oF hc hf
    refine k_aload_n E hl 0 dX8_wouldPay_15 rfl ?_
    refine gf_X8_35 E hW 0 rfl rfl dX8_wouldPay_16 ?_
    refine k_aload_n E hl 0 dX8_wouldPay_19 rfl ?_
    refine gf_X8_31 E hW 0 rfl rfl dX8_wouldPay_20 ?_
    obtain ⟨fo_3, hg, hf⟩ := ob hf
    refine k_callVv (As := [.ref (a_no 0)]) (rest := []) (ws2 := fun u => wMCo k a_th (a_in 0) (a_ou 0) (a_ru 0) (a_no 0) (a_fo 0) (a_rd 0) (a_pa 0) sv_th th_0 ++ wRules k a_ru ru_0 ++ wCourt k a_no no_0 ++ wCourt k a_fo (u)) (c_X2_copyFrom n l k a_fo a_no fo_0 no_0 fo_3 hg) E vl_X8_90 dX8_wouldPay_23 rfl (List.range' 16 12 ++ List.range' 4 12) 1 16 hW hA hl rfl (by simp only [List.map_append]; exact app2 (blk_map (wMCo k a_th (a_in 0) (a_ou 0) (a_ru 0) (a_no 0) (a_fo 0) (a_rd 0) (a_pa 0) sv_th th_0 ++ wRules k a_ru ru_0 ++ wCourt k a_no no_0) (wCourt k a_fo fo_0) [] 16 12 (by simp only [List.append_assoc, List.nil_append, List.append_nil]) rfl rfl) (blk_map (wMCo k a_th (a_in 0) (a_ou 0) (a_ru 0) (a_no 0) (a_fo 0) (a_rd 0) (a_pa 0) sv_th th_0 ++ wRules k a_ru ru_0) (wCourt k a_no no_0) (wCourt k a_fo fo_0) 4 12 (by simp only [List.append_assoc, List.nil_append, List.append_nil]) rfl rfl)) rfl rfl ⟨by decide, by decide⟩ ⟨by decide, by decide⟩ (Nat.le_of_ble_eq_true rfl) rfl (fun _ => rfl) (fun u => by show putW _ (_ ++ _) (_ ++ _) = _; rw [putW_app _ _ _ _ _ rfl, blk_put (wMCo k a_th (a_in 0) (a_ou 0) (a_ru 0) (a_no 0) (a_fo 0) (a_rd 0) (a_pa 0) sv_th th_0 ++ wRules k a_ru ru_0 ++ wCourt k a_no no_0) (wCourt k a_fo fo_0) [] (wCourt k a_fo (u)) 16 12 (by simp only [List.append_assoc, List.nil_append, List.append_nil]) rfl rfl rfl, blk_put (wMCo k a_th (a_in 0) (a_ou 0) (a_ru 0) (a_no 0) (a_fo 0) (a_rd 0) (a_pa 0) sv_th th_0 ++ wRules k a_ru ru_0) (wCourt k a_no no_0) (wCourt k a_fo (u)) (wCourt k a_no no_0) 4 12 (by simp only [List.append_assoc, List.nil_append, List.append_nil]) rfl rfl rfl]; try simp only [List.append_assoc, List.nil_append, List.append_nil]) (fun u H locs hp hW => ?_)
    cases hp
    have hW : WD k A s.heap (wMCo k a_th (a_in 0) (a_ou 0) (a_ru 0) (a_no 0) (a_fo 0) (a_rd 0) (a_pa 0) sv_th th_0 ++ wRules k a_ru ru_0 ++ wCourt k a_no no_0 ++ wCourt k a_fo fo_3) H locs := hW
    refine k_aload_n E hl 0 dX8_wouldPay_26 rfl ?_
    obtain ⟨fo_4, hg, hf⟩ := ob hf
    refine k_callVv (As := []) (rest := []) (ws2 := fun u => wMCo k a_th (a_in 0) (a_ou 0) (a_ru 0) (a_no 0) (a_fo 0) (a_rd 0) (a_pa 0) sv_th th_0 ++ wRules k a_ru ru_0 ++ wCourt k a_no no_0 ++ wCourt k a_fo (u)) (c_X8_passToHearing n l k a_th a_in a_ou a_ru a_no a_fo a_rd a_pa sv_th th_0 ru_0 no_0 fo_3 fo_4 hg) E vl_X8_344 dX8_wouldPay_27 rfl (List.range' 0 28) 6 0 hW hA hl rfl (blk_map [] (wMCo k a_th (a_in 0) (a_ou 0) (a_ru 0) (a_no 0) (a_fo 0) (a_rd 0) (a_pa 0) sv_th th_0 ++ wRules k a_ru ru_0 ++ wCourt k a_no no_0 ++ wCourt k a_fo fo_3) [] 0 28 (by simp only [List.nil_append, List.append_nil]) rfl rfl) rfl rfl ⟨by decide, by decide⟩ ⟨by decide, by decide⟩ (Nat.le_of_ble_eq_true rfl) rfl (fun _ => rfl) (fun u => by rw [blk_put [] (wMCo k a_th (a_in 0) (a_ou 0) (a_ru 0) (a_no 0) (a_fo 0) (a_rd 0) (a_pa 0) sv_th th_0 ++ wRules k a_ru ru_0 ++ wCourt k a_no no_0 ++ wCourt k a_fo fo_3) [] (wMCo k a_th (a_in 0) (a_ou 0) (a_ru 0) (a_no 0) (a_fo 0) (a_rd 0) (a_pa 0) sv_th th_0 ++ wRules k a_ru ru_0 ++ wCourt k a_no no_0 ++ wCourt k a_fo (u)) 0 28 (by simp only [List.nil_append, List.append_nil]) rfl rfl rfl]; try simp only [List.nil_append, List.append_nil]) (fun u H locs hp hW => ?_)
    cases hp
    have hW : WD k A s.heap (wMCo k a_th (a_in 0) (a_ou 0) (a_ru 0) (a_no 0) (a_fo 0) (a_rd 0) (a_pa 0) sv_th th_0 ++ wRules k a_ru ru_0 ++ wCourt k a_no no_0 ++ wCourt k a_fo fo_4) H locs := hW
    refine k_aload_n E hl 0 dX8_wouldPay_30 rfl ?_
    refine gf_X8_35 E hW 0 rfl rfl dX8_wouldPay_31 ?_
    refine k_iload_n E hl 1 dX8_wouldPay_34 rfl ?_
    obtain ⟨r_5, hg, hf⟩ := ob hf
    refine k_callVi (As := [.int v1_0]) (rest := []) (ws2 := fun u => wMCo k a_th (a_in 0) (a_ou 0) (a_ru 0) (a_no 0) (a_fo 0) (a_rd 0) (a_pa 0) sv_th th_0 ++ wRules k a_ru ru_0 ++ wCourt k a_no no_0 ++ wCourt k a_fo fo_4) (c_X2_latestFines n l k a_fo fo_4 v1_0 r_5 hg) E vl_X8_347 dX8_wouldPay_35 rfl (List.range' 16 12) 1 16 hW hA hl rfl (by exact blk_map (wMCo k a_th (a_in 0) (a_ou 0) (a_ru 0) (a_no 0) (a_fo 0) (a_rd 0) (a_pa 0) sv_th th_0 ++ wRules k a_ru ru_0 ++ wCourt k a_no no_0) (wCourt k a_fo fo_4) [] 16 12 (by simp only [List.append_assoc, List.nil_append, List.append_nil]) rfl rfl) rfl rfl ⟨by decide, by decide⟩ ⟨by decide, by decide⟩ (Nat.le_of_ble_eq_true rfl) rfl (fun _ => rfl) (fun u => by rw [blk_put (wMCo k a_th (a_in 0) (a_ou 0) (a_ru 0) (a_no 0) (a_fo 0) (a_rd 0) (a_pa 0) sv_th th_0 ++ wRules k a_ru ru_0 ++ wCourt k a_no no_0) (wCourt k a_fo fo_4) [] (wCourt k a_fo fo_4) 16 12 (by simp only [List.append_assoc, List.nil_append, List.append_nil]) rfl rfl rfl]; try simp only [List.append_assoc, List.nil_append, List.append_nil]) (fun r u H locs hp hW => ?_)
    cases hp
    have hW : WD k A s.heap (wMCo k a_th (a_in 0) (a_ou 0) (a_ru 0) (a_no 0) (a_fo 0) (a_rd 0) (a_pa 0) sv_th th_0 ++ wRules k a_ru ru_0 ++ wCourt k a_no no_0 ++ wCourt k a_fo fo_4) H locs := hW
    exact hret _ fo_4 _ _ _ _ _ _ hW (Option.some.inj hf).symm rfl (by decide) (by decide) dX8_wouldPay_38
  · have hf := oT hc hf
    refine lv_iconst (v := (0 : Int32)) E.hx E.hb dX8_wouldPay_13 ic_0 ?_
    exact hret _ fo_0 _ _ _ _ _ _ hW (Option.some.inj hf).symm rfl (by decide) (by decide) dX8_wouldPay_14
def f_X8_freeIn (n : Nat) (sv_th : Value) (th_0 : OS) (ru_0 : OS) (no_0 : OS) (fo_0 : OS) (v1_0 : Int32) : Option (OS × Int32 × Nat) :=
  bnd (f_X8_needTicks n sv_th th_0 v1_0) (fun (cd_1 : Nat) =>
  if cd_1 = 0 then (
  bnd (f_X2_copyFrom n fo_0 no_0) (fun (fo_2 : OS) =>
  bnd2 (f_X8_pass n sv_th th_0 ru_0 no_0 fo_2 v1_0) (fun (fo_3 : OS) (r_4 : Int32) =>
  some (fo_3, (fo_3.1 2), 0)))) else (
  some (fo_0, (0 : Int32), cd_1)))
set_option maxHeartbeats 4000000 in
set_option maxRecDepth 100000 in
theorem c_X8_freeIn (n : Nat) (l : Launch) (k : KT) (hx : XH l k) (a_th : Nat → Nat) (a_in : Nat → Nat) (a_ou : Nat → Nat) (a_ru : Nat → Nat) (a_no : Nat → Nat) (a_fo : Nat → Nat) (a_rd : Nat → Nat) (a_pa : Nat → Nat) (sv_th : Value) (th_0 : OS) (ru_0 : OS) (no_0 : OS) (fo_0 : OS) (v1_0 : Int32) (res : (OS × Int32 × Nat)) (hf : f_X8_freeIn n sv_th th_0 ru_0 no_0 fo_0 v1_0 = some res) : CX l k yX8_freeIn cX8_freeIn 2 (some .int) 7 1 6 168 [.ref (a_th 0), .int v1_0] (wMCo k a_th (a_in 0) (a_ou 0) (a_ru 0) (a_no 0) (a_fo 0) (a_rd 0) (a_pa 0) sv_th th_0 ++ wRules k a_ru ru_0 ++ wCourt k a_no no_0 ++ wCourt k a_fo fo_0) (Qi k (fun u : OS => wMCo k a_th (a_in 0) (a_ou 0) (a_ru 0) (a_no 0) (a_fo 0) (a_rd 0) (a_pa 0) sv_th th_0 ++ wRules k a_ru ru_0 ++ wCourt k a_no no_0 ++ wCourt k a_fo u) (fun (r : Int32) (u : OS) => res = (u, r, 0))) (Xq k (fun u : OS => wMCo k a_th (a_in 0) (a_ou 0) (a_ru 0) (a_no 0) (a_fo 0) (a_rd 0) (a_pa 0) sv_th th_0 ++ wRules k a_ru ru_0 ++ wCourt k a_no no_0 ++ wCourt k a_fo u) (fun (cd : Nat) (u : OS) => cd ≠ 0 ∧ res = (u, (0 : Int32), cd))) := by
  refine CX.ofI hx rfl (by decide) (Nat.le_of_ble_eq_true rfl) (by decide) (by decide) (fun p e s m args below meth c A Q E hnm hW hA hret hout hthr ls hl => ?_)
  have hl : lv_has ls 2 [(0, .ref (a_th 0)), (1, .int v1_0)] := hl
  unfold f_X8_freeIn at hf
  refine k_aload_n E hl 0 dX8_freeIn_0 rfl ?_
  refine k_iload_n E hl 1 dX8_freeIn_1 rfl ?_
  obtain ⟨cd_1, hg, hf⟩ := ob hf
  refine k_callXv (As := [.int v1_0]) (rest := []) (ws2 := fun u => wMCo k a_th (a_in 0) (a_ou 0) (a_ru 0) (a_no 0) (a_fo 0) (a_rd 0) (a_pa 0) sv_th th_0 ++ wRules k a_ru ru_0 ++ wCourt k a_no no_0 ++ wCourt k a_fo fo_0) (c_X8_needTicks n l k hx a_th a_in a_ou a_ru a_no a_fo a_rd a_pa sv_th th_0 v1_0 cd_1 hg) E vl_X8_275 dX8_freeIn_2 rfl [0] 6 0 hW hA hl rfl rfl rfl rfl ⟨by decide, by decide⟩ ⟨by decide, by decide⟩ (Nat.le_of_ble_eq_true rfl) rfl (fun _ => rfl) (fun _ => rfl) (fun cd9 u ce9 q9 H locs hp hW hce hcv hcls => ?_) (fun u H locs hp hW => ?_)
  · obtain ⟨hcd, hp⟩ := hp
    cases hp
    have hW : WD k A s.heap (wMCo k a_th (a_in 0) (a_ou 0) (a_ru 0) (a_no 0) (a_fo 0) (a_rd 0) (a_pa 0) sv_th th_0 ++ wRules k a_ru ru_0 ++ wCourt k a_no no_0 ++ wCourt k a_fo fo_0) H locs := hW
    have hf := oF hcd hf
    exact hout _ fo_0 _ _ _ _ _ _ _ _ _ ⟨hcd, (Option.some.inj hf).symm⟩ hW hce hcv hcls (by decide) (by decide)
  cases hp
  have hW : WD k A s.heap (wMCo k a_th (a_in 0) (a_ou 0) (a_ru 0) (a_no 0) (a_fo 0) (a_rd 0) (a_pa 0) sv_th th_0 ++ wRules k a_ru ru_0 ++ wCourt k a_no no_0 ++ wCourt k a_fo fo_0) H locs := hW
  have hf := oT rfl hf
  refine k_aload_n E hl 0 dX8_freeIn_5 rfl ?_
  refine gf_X8_35 E hW 0 rfl rfl dX8_freeIn_6 ?_
  refine k_aload_n E hl 0 dX8_freeIn_9 rfl ?_
  refine gf_X8_31 E hW 0 rfl rfl dX8_freeIn_10 ?_
  obtain ⟨fo_2, hg, hf⟩ := ob hf
  refine k_callVv (As := [.ref (a_no 0)]) (rest := []) (ws2 := fun u => wMCo k a_th (a_in 0) (a_ou 0) (a_ru 0) (a_no 0) (a_fo 0) (a_rd 0) (a_pa 0) sv_th th_0 ++ wRules k a_ru ru_0 ++ wCourt k a_no no_0 ++ wCourt k a_fo (u)) (c_X2_copyFrom n l k a_fo a_no fo_0 no_0 fo_2 hg) E vl_X8_90 dX8_freeIn_13 rfl (List.range' 16 12 ++ List.range' 4 12) 1 16 hW hA hl rfl (by simp only [List.map_append]; exact app2 (blk_map (wMCo k a_th (a_in 0) (a_ou 0) (a_ru 0) (a_no 0) (a_fo 0) (a_rd 0) (a_pa 0) sv_th th_0 ++ wRules k a_ru ru_0 ++ wCourt k a_no no_0) (wCourt k a_fo fo_0) [] 16 12 (by simp only [List.append_assoc, List.nil_append, List.append_nil]) rfl rfl) (blk_map (wMCo k a_th (a_in 0) (a_ou 0) (a_ru 0) (a_no 0) (a_fo 0) (a_rd 0) (a_pa 0) sv_th th_0 ++ wRules k a_ru ru_0) (wCourt k a_no no_0) (wCourt k a_fo fo_0) 4 12 (by simp only [List.append_assoc, List.nil_append, List.append_nil]) rfl rfl)) rfl rfl ⟨by decide, by decide⟩ ⟨by decide, by decide⟩ (Nat.le_of_ble_eq_true rfl) rfl (fun _ => rfl) (fun u => by show putW _ (_ ++ _) (_ ++ _) = _; rw [putW_app _ _ _ _ _ rfl, blk_put (wMCo k a_th (a_in 0) (a_ou 0) (a_ru 0) (a_no 0) (a_fo 0) (a_rd 0) (a_pa 0) sv_th th_0 ++ wRules k a_ru ru_0 ++ wCourt k a_no no_0) (wCourt k a_fo fo_0) [] (wCourt k a_fo (u)) 16 12 (by simp only [List.append_assoc, List.nil_append, List.append_nil]) rfl rfl rfl, blk_put (wMCo k a_th (a_in 0) (a_ou 0) (a_ru 0) (a_no 0) (a_fo 0) (a_rd 0) (a_pa 0) sv_th th_0 ++ wRules k a_ru ru_0) (wCourt k a_no no_0) (wCourt k a_fo (u)) (wCourt k a_no no_0) 4 12 (by simp only [List.append_assoc, List.nil_append, List.append_nil]) rfl rfl rfl]; try simp only [List.append_assoc, List.nil_append, List.append_nil]) (fun u H locs hp hW => ?_)
  cases hp
  have hW : WD k A s.heap (wMCo k a_th (a_in 0) (a_ou 0) (a_ru 0) (a_no 0) (a_fo 0) (a_rd 0) (a_pa 0) sv_th th_0 ++ wRules k a_ru ru_0 ++ wCourt k a_no no_0 ++ wCourt k a_fo fo_2) H locs := hW
  refine k_aload_n E hl 0 dX8_freeIn_16 rfl ?_
  refine k_iload_n E hl 1 dX8_freeIn_17 rfl ?_
  obtain ⟨fo_3, r_4, hg, hf⟩ := ob2 hf
  refine k_callVi (As := [.int v1_0]) (rest := []) (ws2 := fun u => wMCo k a_th (a_in 0) (a_ou 0) (a_ru 0) (a_no 0) (a_fo 0) (a_rd 0) (a_pa 0) sv_th th_0 ++ wRules k a_ru ru_0 ++ wCourt k a_no no_0 ++ wCourt k a_fo (u)) (c_X8_pass n l k a_th a_in a_ou a_ru a_no a_fo a_rd a_pa sv_th th_0 ru_0 no_0 fo_2 v1_0 (fo_3, r_4) hg) E vl_X8_350 dX8_freeIn_18 rfl (List.range' 0 28) 6 0 hW hA hl rfl (blk_map [] (wMCo k a_th (a_in 0) (a_ou 0) (a_ru 0) (a_no 0) (a_fo 0) (a_rd 0) (a_pa 0) sv_th th_0 ++ wRules k a_ru ru_0 ++ wCourt k a_no no_0 ++ wCourt k a_fo fo_2) [] 0 28 (by simp only [List.nil_append, List.append_nil]) rfl rfl) rfl rfl ⟨by decide, by decide⟩ ⟨by decide, by decide⟩ (Nat.le_of_ble_eq_true rfl) rfl (fun _ => rfl) (fun u => by rw [blk_put [] (wMCo k a_th (a_in 0) (a_ou 0) (a_ru 0) (a_no 0) (a_fo 0) (a_rd 0) (a_pa 0) sv_th th_0 ++ wRules k a_ru ru_0 ++ wCourt k a_no no_0 ++ wCourt k a_fo fo_2) [] (wMCo k a_th (a_in 0) (a_ou 0) (a_ru 0) (a_no 0) (a_fo 0) (a_rd 0) (a_pa 0) sv_th th_0 ++ wRules k a_ru ru_0 ++ wCourt k a_no no_0 ++ wCourt k a_fo (u)) 0 28 (by simp only [List.nil_append, List.append_nil]) rfl rfl rfl]; try simp only [List.nil_append, List.append_nil]) (fun r u H locs hp hW => ?_)
  cases hp
  have hW : WD k A s.heap (wMCo k a_th (a_in 0) (a_ou 0) (a_ru 0) (a_no 0) (a_fo 0) (a_rd 0) (a_pa 0) sv_th th_0 ++ wRules k a_ru ru_0 ++ wCourt k a_no no_0 ++ wCourt k a_fo fo_3) H locs := hW
  refine lv_pop E.hx E.hb dX8_freeIn_21 rfl ?_
  refine k_aload_n E hl 0 dX8_freeIn_22 rfl ?_
  refine gf_X8_35 E hW 0 rfl rfl dX8_freeIn_23 ?_
  refine gf_X8_129 E hW 16 rfl rfl dX8_freeIn_26 ?_
  exact hret _ fo_3 _ _ _ _ _ _ hW (Option.some.inj hf).symm rfl (by decide) (by decide) dX8_freeIn_29
def f_X8_processIn (n : Nat) (sv_th : Value) (th_0 : OS) (ru_0 : OS) (no_0 : OS) (fo_0 : OS) (v1_0 : Int32) (v2_0 : Int32) (v3_0 : Int32) : Option (OS × Int32 × Nat) :=
  bnd (f_X8_needProcess n sv_th th_0 ru_0 v1_0) (fun (cd_1 : Nat) =>
  if cd_1 = 0 then (
  bnd (f_X8_needTicks n sv_th th_0 v2_0) (fun (cd_2 : Nat) =>
  if cd_2 = 0 then (
  if v3_0 < 0 then (
  some (fo_0, (0 : Int32), 2)) else (
  if v3_0 ≤ (2 : Int32) then (
  bnd (f_X2_copyFrom n fo_0 no_0) (fun (fo_3 : OS) =>
  bnd2 (f_X8_pass n sv_th th_0 ru_0 no_0 fo_3 v2_0) (fun (fo_4 : OS) (r_5 : Int32) =>
  if v3_0 = (2 : Int32) then (
  bnd (f_X2_heldPages n fo_4 v1_0) (fun (r_8 : Int32) =>
  some (fo_4, r_8, 0))) else (
  if v3_0 = 0 then (
  bnd (f_X6_get n (5 : Int32) 40 (fo_4.2.1 11) v1_0 (0 : Int32)) (fun (r_7 : Int32) =>
  some (fo_4, r_7, 0))) else (
  bnd (f_X6_get n (5 : Int32) 40 (fo_4.2.1 11) v1_0 (1 : Int32)) (fun (r_6 : Int32) =>
  some (fo_4, r_6, 0))))))) else (
  some (fo_0, (0 : Int32), 2)))) else (
  some (fo_0, (0 : Int32), cd_2)))) else (
  some (fo_0, (0 : Int32), cd_1)))
set_option maxHeartbeats 4000000 in
set_option maxRecDepth 100000 in
theorem c_X8_processIn (n : Nat) (l : Launch) (k : KT) (hx : XH l k) (a_th : Nat → Nat) (a_in : Nat → Nat) (a_ou : Nat → Nat) (a_ru : Nat → Nat) (a_no : Nat → Nat) (a_fo : Nat → Nat) (a_rd : Nat → Nat) (a_pa : Nat → Nat) (sv_th : Value) (th_0 : OS) (ru_0 : OS) (no_0 : OS) (fo_0 : OS) (v1_0 : Int32) (v2_0 : Int32) (v3_0 : Int32) (res : (OS × Int32 × Nat)) (hf : f_X8_processIn n sv_th th_0 ru_0 no_0 fo_0 v1_0 v2_0 v3_0 = some res) : CX l k yX8_processIn cX8_processIn 4 (some .int) 7 3 18 168 [.ref (a_th 0), .int v1_0, .int v2_0, .int v3_0] (wMCo k a_th (a_in 0) (a_ou 0) (a_ru 0) (a_no 0) (a_fo 0) (a_rd 0) (a_pa 0) sv_th th_0 ++ wRules k a_ru ru_0 ++ wCourt k a_no no_0 ++ wCourt k a_fo fo_0) (Qi k (fun u : OS => wMCo k a_th (a_in 0) (a_ou 0) (a_ru 0) (a_no 0) (a_fo 0) (a_rd 0) (a_pa 0) sv_th th_0 ++ wRules k a_ru ru_0 ++ wCourt k a_no no_0 ++ wCourt k a_fo u) (fun (r : Int32) (u : OS) => res = (u, r, 0))) (Xq k (fun u : OS => wMCo k a_th (a_in 0) (a_ou 0) (a_ru 0) (a_no 0) (a_fo 0) (a_rd 0) (a_pa 0) sv_th th_0 ++ wRules k a_ru ru_0 ++ wCourt k a_no no_0 ++ wCourt k a_fo u) (fun (cd : Nat) (u : OS) => cd ≠ 0 ∧ res = (u, (0 : Int32), cd))) := by
  refine CX.ofI hx rfl (by decide) (Nat.le_of_ble_eq_true rfl) (by decide) (by decide) (fun p e s m args below meth c A Q E hnm hW hA hret hout hthr ls hl => ?_)
  have hl : lv_has ls 4 [(0, .ref (a_th 0)), (1, .int v1_0), (2, .int v2_0), (3, .int v3_0)] := hl
  unfold f_X8_processIn at hf
  refine k_aload_n E hl 0 dX8_processIn_0 rfl ?_
  refine k_iload_n E hl 1 dX8_processIn_1 rfl ?_
  obtain ⟨cd_1, hg, hf⟩ := ob hf
  refine k_callXv (As := [.int v1_0]) (rest := []) (ws2 := fun u => wMCo k a_th (a_in 0) (a_ou 0) (a_ru 0) (a_no 0) (a_fo 0) (a_rd 0) (a_pa 0) sv_th th_0 ++ wRules k a_ru ru_0 ++ wCourt k a_no no_0 ++ wCourt k a_fo fo_0) (c_X8_needProcess n l k hx a_th a_in a_ou a_ru a_no a_fo a_rd a_pa sv_th th_0 ru_0 v1_0 cd_1 hg) E vl_X8_165 dX8_processIn_2 rfl [0, 1, 2, 3] 6 0 hW hA hl rfl rfl rfl rfl ⟨by decide, by decide⟩ ⟨by decide, by decide⟩ (Nat.le_of_ble_eq_true rfl) rfl (fun _ => rfl) (fun _ => rfl) (fun cd9 u ce9 q9 H locs hp hW hce hcv hcls => ?_) (fun u H locs hp hW => ?_)
  · obtain ⟨hcd, hp⟩ := hp
    cases hp
    have hW : WD k A s.heap (wMCo k a_th (a_in 0) (a_ou 0) (a_ru 0) (a_no 0) (a_fo 0) (a_rd 0) (a_pa 0) sv_th th_0 ++ wRules k a_ru ru_0 ++ wCourt k a_no no_0 ++ wCourt k a_fo fo_0) H locs := hW
    have hf := oF hcd hf
    exact hout _ fo_0 _ _ _ _ _ _ _ _ _ ⟨hcd, (Option.some.inj hf).symm⟩ hW hce hcv hcls (by decide) (by decide)
  cases hp
  have hW : WD k A s.heap (wMCo k a_th (a_in 0) (a_ou 0) (a_ru 0) (a_no 0) (a_fo 0) (a_rd 0) (a_pa 0) sv_th th_0 ++ wRules k a_ru ru_0 ++ wCourt k a_no no_0 ++ wCourt k a_fo fo_0) H locs := hW
  have hf := oT rfl hf
  refine k_aload_n E hl 0 dX8_processIn_5 rfl ?_
  refine k_iload_n E hl 2 dX8_processIn_6 rfl ?_
  obtain ⟨cd_2, hg, hf⟩ := ob hf
  refine k_callXv (As := [.int v2_0]) (rest := []) (ws2 := fun u => wMCo k a_th (a_in 0) (a_ou 0) (a_ru 0) (a_no 0) (a_fo 0) (a_rd 0) (a_pa 0) sv_th th_0 ++ wRules k a_ru ru_0 ++ wCourt k a_no no_0 ++ wCourt k a_fo fo_0) (c_X8_needTicks n l k hx a_th a_in a_ou a_ru a_no a_fo a_rd a_pa sv_th th_0 v2_0 cd_2 hg) E vl_X8_275 dX8_processIn_7 rfl [0] 6 0 hW hA hl rfl rfl rfl rfl ⟨by decide, by decide⟩ ⟨by decide, by decide⟩ (Nat.le_of_ble_eq_true rfl) rfl (fun _ => rfl) (fun _ => rfl) (fun cd9 u ce9 q9 H locs hp hW hce hcv hcls => ?_) (fun u H locs hp hW => ?_)
  · obtain ⟨hcd, hp⟩ := hp
    cases hp
    have hW : WD k A s.heap (wMCo k a_th (a_in 0) (a_ou 0) (a_ru 0) (a_no 0) (a_fo 0) (a_rd 0) (a_pa 0) sv_th th_0 ++ wRules k a_ru ru_0 ++ wCourt k a_no no_0 ++ wCourt k a_fo fo_0) H locs := hW
    have hf := oF hcd hf
    exact hout _ fo_0 _ _ _ _ _ _ _ _ _ ⟨hcd, (Option.some.inj hf).symm⟩ hW hce hcv hcls (by decide) (by decide)
  cases hp
  have hW : WD k A s.heap (wMCo k a_th (a_in 0) (a_ou 0) (a_ru 0) (a_no 0) (a_fo 0) (a_rd 0) (a_pa 0) sv_th th_0 ++ wRules k a_ru ru_0 ++ wCourt k a_no no_0 ++ wCourt k a_fo fo_0) H locs := hW
  have hf := oT rfl hf
  refine k_iload_n E hl 3 dX8_processIn_10 rfl ?_
  refine lv_if_lt (tgt := 19) E.hx E.hb dX8_processIn_11 (by decide) (fun hc => ?_) (fun hc => ?_)
  · have hf := oT hc hf
    exact hthr 2 fo_0 _ _ _ _ _ _ _ _ _ _ _ xr_2 xt_353 ⟨by decide, (Option.some.inj hf).symm⟩ hW hl ⟨dX8_processIn_19, dX8_processIn_22, Or.inr ⟨dX8_processIn_23, dX8_processIn_26, dX8_processIn_29⟩⟩ (by decide) (by decide)
  · have hf := oF hc hf
    refine k_iload_n E hl 3 dX8_processIn_14 rfl ?_
    refine lv_iconst (v := (2 : Int32)) E.hx E.hb dX8_processIn_15 ic_2 ?_
    refine lv_icmp_le (tgt := 30) E.hx E.hb dX8_processIn_16 (by decide) (fun hc => ?_) (fun hc => ?_)
    · have hf := oT hc hf
      refine k_aload_n E hl 0 dX8_processIn_30 rfl ?_
      refine gf_X8_35 E hW 0 rfl rfl dX8_processIn_31 ?_
      refine k_aload_n E hl 0 dX8_processIn_34 rfl ?_
      refine gf_X8_31 E hW 0 rfl rfl dX8_processIn_35 ?_
      obtain ⟨fo_3, hg, hf⟩ := ob hf
      refine k_callVv (As := [.ref (a_no 0)]) (rest := []) (ws2 := fun u => wMCo k a_th (a_in 0) (a_ou 0) (a_ru 0) (a_no 0) (a_fo 0) (a_rd 0) (a_pa 0) sv_th th_0 ++ wRules k a_ru ru_0 ++ wCourt k a_no no_0 ++ wCourt k a_fo (u)) (c_X2_copyFrom n l k a_fo a_no fo_0 no_0 fo_3 hg) E vl_X8_90 dX8_processIn_38 rfl (List.range' 16 12 ++ List.range' 4 12) 1 16 hW hA hl rfl (by simp only [List.map_append]; exact app2 (blk_map (wMCo k a_th (a_in 0) (a_ou 0) (a_ru 0) (a_no 0) (a_fo 0) (a_rd 0) (a_pa 0) sv_th th_0 ++ wRules k a_ru ru_0 ++ wCourt k a_no no_0) (wCourt k a_fo fo_0) [] 16 12 (by simp only [List.append_assoc, List.nil_append, List.append_nil]) rfl rfl) (blk_map (wMCo k a_th (a_in 0) (a_ou 0) (a_ru 0) (a_no 0) (a_fo 0) (a_rd 0) (a_pa 0) sv_th th_0 ++ wRules k a_ru ru_0) (wCourt k a_no no_0) (wCourt k a_fo fo_0) 4 12 (by simp only [List.append_assoc, List.nil_append, List.append_nil]) rfl rfl)) rfl rfl ⟨by decide, by decide⟩ ⟨by decide, by decide⟩ (Nat.le_of_ble_eq_true rfl) rfl (fun _ => rfl) (fun u => by show putW _ (_ ++ _) (_ ++ _) = _; rw [putW_app _ _ _ _ _ rfl, blk_put (wMCo k a_th (a_in 0) (a_ou 0) (a_ru 0) (a_no 0) (a_fo 0) (a_rd 0) (a_pa 0) sv_th th_0 ++ wRules k a_ru ru_0 ++ wCourt k a_no no_0) (wCourt k a_fo fo_0) [] (wCourt k a_fo (u)) 16 12 (by simp only [List.append_assoc, List.nil_append, List.append_nil]) rfl rfl rfl, blk_put (wMCo k a_th (a_in 0) (a_ou 0) (a_ru 0) (a_no 0) (a_fo 0) (a_rd 0) (a_pa 0) sv_th th_0 ++ wRules k a_ru ru_0) (wCourt k a_no no_0) (wCourt k a_fo (u)) (wCourt k a_no no_0) 4 12 (by simp only [List.append_assoc, List.nil_append, List.append_nil]) rfl rfl rfl]; try simp only [List.append_assoc, List.nil_append, List.append_nil]) (fun u H locs hp hW => ?_)
      cases hp
      have hW : WD k A s.heap (wMCo k a_th (a_in 0) (a_ou 0) (a_ru 0) (a_no 0) (a_fo 0) (a_rd 0) (a_pa 0) sv_th th_0 ++ wRules k a_ru ru_0 ++ wCourt k a_no no_0 ++ wCourt k a_fo fo_3) H locs := hW
      refine k_aload_n E hl 0 dX8_processIn_41 rfl ?_
      refine k_iload_n E hl 2 dX8_processIn_42 rfl ?_
      obtain ⟨fo_4, r_5, hg, hf⟩ := ob2 hf
      refine k_callVi (As := [.int v2_0]) (rest := []) (ws2 := fun u => wMCo k a_th (a_in 0) (a_ou 0) (a_ru 0) (a_no 0) (a_fo 0) (a_rd 0) (a_pa 0) sv_th th_0 ++ wRules k a_ru ru_0 ++ wCourt k a_no no_0 ++ wCourt k a_fo (u)) (c_X8_pass n l k a_th a_in a_ou a_ru a_no a_fo a_rd a_pa sv_th th_0 ru_0 no_0 fo_3 v2_0 (fo_4, r_5) hg) E vl_X8_350 dX8_processIn_43 rfl (List.range' 0 28) 6 0 hW hA hl rfl (blk_map [] (wMCo k a_th (a_in 0) (a_ou 0) (a_ru 0) (a_no 0) (a_fo 0) (a_rd 0) (a_pa 0) sv_th th_0 ++ wRules k a_ru ru_0 ++ wCourt k a_no no_0 ++ wCourt k a_fo fo_3) [] 0 28 (by simp only [List.nil_append, List.append_nil]) rfl rfl) rfl rfl ⟨by decide, by decide⟩ ⟨by decide, by decide⟩ (Nat.le_of_ble_eq_true rfl) rfl (fun _ => rfl) (fun u => by rw [blk_put [] (wMCo k a_th (a_in 0) (a_ou 0) (a_ru 0) (a_no 0) (a_fo 0) (a_rd 0) (a_pa 0) sv_th th_0 ++ wRules k a_ru ru_0 ++ wCourt k a_no no_0 ++ wCourt k a_fo fo_3) [] (wMCo k a_th (a_in 0) (a_ou 0) (a_ru 0) (a_no 0) (a_fo 0) (a_rd 0) (a_pa 0) sv_th th_0 ++ wRules k a_ru ru_0 ++ wCourt k a_no no_0 ++ wCourt k a_fo (u)) 0 28 (by simp only [List.nil_append, List.append_nil]) rfl rfl rfl]; try simp only [List.nil_append, List.append_nil]) (fun r u H locs hp hW => ?_)
      cases hp
      have hW : WD k A s.heap (wMCo k a_th (a_in 0) (a_ou 0) (a_ru 0) (a_no 0) (a_fo 0) (a_rd 0) (a_pa 0) sv_th th_0 ++ wRules k a_ru ru_0 ++ wCourt k a_no no_0 ++ wCourt k a_fo fo_4) H locs := hW
      refine lv_pop E.hx E.hb dX8_processIn_46 rfl ?_
      refine k_iload_n E hl 3 dX8_processIn_47 rfl ?_
      refine lv_iconst (v := (2 : Int32)) E.hx E.hb dX8_processIn_48 ic_2 ?_
      refine lv_icmp_ne (tgt := 61) E.hx E.hb dX8_processIn_49 (by decide) (fun hc => ?_) (fun hc => ?_)
      · have hf := oF hc hf
        refine k_aload_n E hl 0 dX8_processIn_61 rfl ?_
        refine gf_X8_35 E hW 0 rfl rfl dX8_processIn_62 ?_
        refine gf_X8_168 E hW 16 rfl rfl dX8_processIn_65 ?_
        refine k_iload_n E hl 1 dX8_processIn_68 rfl ?_
        refine k_iload_n E hl 3 dX8_processIn_69 rfl ?_
        refine lv_if_ne (tgt := 77) E.hx E.hb dX8_processIn_70 (by decide) (fun hc => ?_) (fun hc => ?_)
        · have hf := oF hc hf
          refine lv_iconst (v := (1 : Int32)) E.hx E.hb dX8_processIn_77 ic_1 ?_
          obtain ⟨r_6, hg, hf⟩ := ob hf
          refine k_callVi (As := [.int v1_0, .int (1 : Int32)]) (rest := []) (ws2 := fun u => wMCo k a_th (a_in 0) (a_ou 0) (a_ru 0) (a_no 0) (a_fo 0) (a_rd 0) (a_pa 0) sv_th th_0 ++ wRules k a_ru ru_0 ++ wCourt k a_no no_0 ++ wCourt k a_fo fo_4) (c_X6_get n l k (fun j => a_fo (3 + j)) (5 : Int32) 40 (fo_4.2.1 11) v1_0 (1 : Int32) r_6 hg) E vl_X8_171 dX8_processIn_78 rfl [19, 20] 5 19 hW hA hl rfl rfl rfl rfl ⟨by decide, by decide⟩ ⟨by decide, by decide⟩ (Nat.le_of_ble_eq_true rfl) rfl (fun _ => rfl) (fun _ => rfl) (fun r u H locs hp hW => ?_)
          cases hp
          have hW : WD k A s.heap (wMCo k a_th (a_in 0) (a_ou 0) (a_ru 0) (a_no 0) (a_fo 0) (a_rd 0) (a_pa 0) sv_th th_0 ++ wRules k a_ru ru_0 ++ wCourt k a_no no_0 ++ wCourt k a_fo fo_4) H locs := hW
          exact hret _ fo_4 _ _ _ _ _ _ hW (Option.some.inj hf).symm rfl (by decide) (by decide) dX8_processIn_81
        · have hf := oT hc hf
          refine lv_iconst (v := (0 : Int32)) E.hx E.hb dX8_processIn_73 ic_0 ?_
          refine lv_goto (tgt := 78) E.hx E.hb dX8_processIn_74 (by decide) ?_
          obtain ⟨r_7, hg, hf⟩ := ob hf
          refine k_callVi (As := [.int v1_0, .int (0 : Int32)]) (rest := []) (ws2 := fun u => wMCo k a_th (a_in 0) (a_ou 0) (a_ru 0) (a_no 0) (a_fo 0) (a_rd 0) (a_pa 0) sv_th th_0 ++ wRules k a_ru ru_0 ++ wCourt k a_no no_0 ++ wCourt k a_fo fo_4) (c_X6_get n l k (fun j => a_fo (3 + j)) (5 : Int32) 40 (fo_4.2.1 11) v1_0 (0 : Int32) r_7 hg) E vl_X8_171 dX8_processIn_78 rfl [19, 20] 5 19 hW hA hl rfl rfl rfl rfl ⟨by decide, by decide⟩ ⟨by decide, by decide⟩ (Nat.le_of_ble_eq_true rfl) rfl (fun _ => rfl) (fun _ => rfl) (fun r u H locs hp hW => ?_)
          cases hp
          have hW : WD k A s.heap (wMCo k a_th (a_in 0) (a_ou 0) (a_ru 0) (a_no 0) (a_fo 0) (a_rd 0) (a_pa 0) sv_th th_0 ++ wRules k a_ru ru_0 ++ wCourt k a_no no_0 ++ wCourt k a_fo fo_4) H locs := hW
          exact hret _ fo_4 _ _ _ _ _ _ hW (Option.some.inj hf).symm rfl (by decide) (by decide) dX8_processIn_81
      · have hf := oT hc hf
        refine k_aload_n E hl 0 dX8_processIn_52 rfl ?_
        refine gf_X8_35 E hW 0 rfl rfl dX8_processIn_53 ?_
        refine k_iload_n E hl 1 dX8_processIn_56 rfl ?_
        obtain ⟨r_8, hg, hf⟩ := ob hf
        refine k_callVi (As := [.int v1_0]) (rest := []) (ws2 := fun u => wMCo k a_th (a_in 0) (a_ou 0) (a_ru 0) (a_no 0) (a_fo 0) (a_rd 0) (a_pa 0) sv_th th_0 ++ wRules k a_ru ru_0 ++ wCourt k a_no no_0 ++ wCourt k a_fo fo_4) (c_X2_heldPages n l k a_fo fo_4 v1_0 r_8 hg) E vl_X8_176 dX8_processIn_57 rfl (List.range' 16 12) 1 16 hW hA hl rfl (by exact blk_map (wMCo k a_th (a_in 0) (a_ou 0) (a_ru 0) (a_no 0) (a_fo 0) (a_rd 0) (a_pa 0) sv_th th_0 ++ wRules k a_ru ru_0 ++ wCourt k a_no no_0) (wCourt k a_fo fo_4) [] 16 12 (by simp only [List.append_assoc, List.nil_append, List.append_nil]) rfl rfl) rfl rfl ⟨by decide, by decide⟩ ⟨by decide, by decide⟩ (Nat.le_of_ble_eq_true rfl) rfl (fun _ => rfl) (fun u => by rw [blk_put (wMCo k a_th (a_in 0) (a_ou 0) (a_ru 0) (a_no 0) (a_fo 0) (a_rd 0) (a_pa 0) sv_th th_0 ++ wRules k a_ru ru_0 ++ wCourt k a_no no_0) (wCourt k a_fo fo_4) [] (wCourt k a_fo fo_4) 16 12 (by simp only [List.append_assoc, List.nil_append, List.append_nil]) rfl rfl rfl]; try simp only [List.append_assoc, List.nil_append, List.append_nil]) (fun r u H locs hp hW => ?_)
        cases hp
        have hW : WD k A s.heap (wMCo k a_th (a_in 0) (a_ou 0) (a_ru 0) (a_no 0) (a_fo 0) (a_rd 0) (a_pa 0) sv_th th_0 ++ wRules k a_ru ru_0 ++ wCourt k a_no no_0 ++ wCourt k a_fo fo_4) H locs := hW
        exact hret _ fo_4 _ _ _ _ _ _ hW (Option.some.inj hf).symm rfl (by decide) (by decide) dX8_processIn_60
    · have hf := oF hc hf
      exact hthr 2 fo_0 _ _ _ _ _ _ _ _ _ _ _ xr_2 xt_353 ⟨by decide, (Option.some.inj hf).symm⟩ hW hl ⟨dX8_processIn_19, dX8_processIn_22, Or.inr ⟨dX8_processIn_23, dX8_processIn_26, dX8_processIn_29⟩⟩ (by decide) (by decide)
def s_X8_bestOrder_12 (n : Nat) (sv_th : Value) (th_0 : OS) (ru_0 : OS) (no_0 : OS) (w1_j12 : Int32) (rc_12 : (OS) → (Int32) → (Int32) → (Int32) → Option (OS × Int32 × Nat)) (fo_j12 : OS) (w2_j12 : Int32) (w3_j12 : Int32) (w4_j12 : Int32) : Option (OS × Int32 × Nat) :=
  if (2 : Int32) < w4_j12 then (
  some (fo_j12, w2_j12, 0)) else (
  bnd (f_X2_copyFrom n fo_j12 no_0) (fun (fo_2 : OS) =>
  Let (sI fo_2 1 w4_j12) (fun fo_3 : OS =>
  bnd2 (f_X8_pass n sv_th th_0 ru_0 no_0 fo_3 w1_j12) (fun (fo_4 : OS) (r_5 : Int32) =>
  if r_5 ≤ w3_j12 then (
  Let (w4_j12 + (1 : Int32)) (fun v4_6 : Int32 =>
  rc_12 fo_4 w2_j12 w3_j12 v4_6)) else (
  Let (w4_j12 + (1 : Int32)) (fun v4_7 : Int32 =>
  rc_12 fo_4 w4_j12 r_5 v4_7))))))
def l_X8_bestOrder_12 (n : Nat) (sv_th : Value) (th_0 : OS) (ru_0 : OS) (no_0 : OS) (w1_j12 : Int32) : Nat → (OS) → (Int32) → (Int32) → (Int32) → Option (OS × Int32 × Nat)
  | 0 => fun _ _ _ _ => none
  | N + 1 => s_X8_bestOrder_12 n sv_th th_0 ru_0 no_0 w1_j12 (l_X8_bestOrder_12 n sv_th th_0 ru_0 no_0 w1_j12 N)
def f_X8_bestOrder (n : Nat) (sv_th : Value) (th_0 : OS) (ru_0 : OS) (no_0 : OS) (fo_0 : OS) (v1_0 : Int32) : Option (OS × Int32 × Nat) :=
  bnd (f_X8_needTicks n sv_th th_0 v1_0) (fun (cd_1 : Nat) =>
  if cd_1 = 0 then (
  l_X8_bestOrder_12 n sv_th th_0 ru_0 no_0 v1_0 n fo_0 (0 : Int32) (-1 : Int32) (0 : Int32)) else (
  some (fo_0, (0 : Int32), cd_1)))
set_option maxHeartbeats 4000000 in
set_option maxRecDepth 100000 in
theorem c_X8_bestOrder (n : Nat) (l : Launch) (k : KT) (hx : XH l k) (a_th : Nat → Nat) (a_in : Nat → Nat) (a_ou : Nat → Nat) (a_ru : Nat → Nat) (a_no : Nat → Nat) (a_fo : Nat → Nat) (a_rd : Nat → Nat) (a_pa : Nat → Nat) (sv_th : Value) (th_0 : OS) (ru_0 : OS) (no_0 : OS) (fo_0 : OS) (v1_0 : Int32) (res : (OS × Int32 × Nat)) (hf : f_X8_bestOrder n sv_th th_0 ru_0 no_0 fo_0 v1_0 = some res) : CX l k yX8_bestOrder cX8_bestOrder 6 (some .int) 7 1 6 168 [.ref (a_th 0), .int v1_0] (wMCo k a_th (a_in 0) (a_ou 0) (a_ru 0) (a_no 0) (a_fo 0) (a_rd 0) (a_pa 0) sv_th th_0 ++ wRules k a_ru ru_0 ++ wCourt k a_no no_0 ++ wCourt k a_fo fo_0) (Qi k (fun u : OS => wMCo k a_th (a_in 0) (a_ou 0) (a_ru 0) (a_no 0) (a_fo 0) (a_rd 0) (a_pa 0) sv_th th_0 ++ wRules k a_ru ru_0 ++ wCourt k a_no no_0 ++ wCourt k a_fo u) (fun (r : Int32) (u : OS) => res = (u, r, 0))) (Xq k (fun u : OS => wMCo k a_th (a_in 0) (a_ou 0) (a_ru 0) (a_no 0) (a_fo 0) (a_rd 0) (a_pa 0) sv_th th_0 ++ wRules k a_ru ru_0 ++ wCourt k a_no no_0 ++ wCourt k a_fo u) (fun (cd : Nat) (u : OS) => cd ≠ 0 ∧ res = (u, (0 : Int32), cd))) := by
  refine CX.ofI hx rfl (by decide) (Nat.le_of_ble_eq_true rfl) (by decide) (by decide) (fun p e s m args below meth c A Q E hnm hW hA hret hout hthr ls hl => ?_)
  have hl : lv_has ls 6 [(0, .ref (a_th 0)), (1, .int v1_0)] := hl
  unfold f_X8_bestOrder at hf
  refine k_aload_n E hl 0 dX8_bestOrder_0 rfl ?_
  refine k_iload_n E hl 1 dX8_bestOrder_1 rfl ?_
  obtain ⟨cd_1, hg, hf⟩ := ob hf
  refine k_callXv (As := [.int v1_0]) (rest := []) (ws2 := fun u => wMCo k a_th (a_in 0) (a_ou 0) (a_ru 0) (a_no 0) (a_fo 0) (a_rd 0) (a_pa 0) sv_th th_0 ++ wRules k a_ru ru_0 ++ wCourt k a_no no_0 ++ wCourt k a_fo fo_0) (c_X8_needTicks n l k hx a_th a_in a_ou a_ru a_no a_fo a_rd a_pa sv_th th_0 v1_0 cd_1 hg) E vl_X8_275 dX8_bestOrder_2 rfl [0] 6 0 hW hA hl rfl rfl rfl rfl ⟨by decide, by decide⟩ ⟨by decide, by decide⟩ (Nat.le_of_ble_eq_true rfl) rfl (fun _ => rfl) (fun _ => rfl) (fun cd9 u ce9 q9 H locs hp hW hce hcv hcls => ?_) (fun u H locs hp hW => ?_)
  · obtain ⟨hcd, hp⟩ := hp
    cases hp
    have hW : WD k A s.heap (wMCo k a_th (a_in 0) (a_ou 0) (a_ru 0) (a_no 0) (a_fo 0) (a_rd 0) (a_pa 0) sv_th th_0 ++ wRules k a_ru ru_0 ++ wCourt k a_no no_0 ++ wCourt k a_fo fo_0) H locs := hW
    have hf := oF hcd hf
    exact hout _ fo_0 _ _ _ _ _ _ _ _ _ ⟨hcd, (Option.some.inj hf).symm⟩ hW hce hcv hcls (by decide) (by decide)
  cases hp
  have hW : WD k A s.heap (wMCo k a_th (a_in 0) (a_ou 0) (a_ru 0) (a_no 0) (a_fo 0) (a_rd 0) (a_pa 0) sv_th th_0 ++ wRules k a_ru ru_0 ++ wCourt k a_no no_0 ++ wCourt k a_fo fo_0) H locs := hW
  have hf := oT rfl hf
  refine lv_iconst (v := (0 : Int32)) E.hx E.hb dX8_bestOrder_5 ic_0 ?_
  refine k_istore_n (lv' := [(2, .int (0 : Int32)), (0, .ref (a_th 0)), (1, .int v1_0)]) E rfl hl dX8_bestOrder_6 rfl (by decide) rfl (fun ls hl => ?_)
  refine lv_iconst (v := (-1 : Int32)) E.hx E.hb dX8_bestOrder_7 ic_m1 ?_
  refine k_istore_n (lv' := [(3, .int (-1 : Int32)), (2, .int (0 : Int32)), (0, .ref (a_th 0)), (1, .int v1_0)]) E rfl hl dX8_bestOrder_8 rfl (by decide) rfl (fun ls hl => ?_)
  refine lv_iconst (v := (0 : Int32)) E.hx E.hb dX8_bestOrder_9 ic_0 ?_
  refine k_istore (lv' := [(4, .int (0 : Int32)), (3, .int (-1 : Int32)), (2, .int (0 : Int32)), (0, .ref (a_th 0)), (1, .int v1_0)]) E rfl hl dX8_bestOrder_10 (by decide) rfl (fun ls hl => ?_)
  have L_12 : ∀ (N_12 : Nat) (fo_j12 : OS) (w2_j12 : Int32) (w3_j12 : Int32) (w4_j12 : Int32) (H : Heap) (locs : List Loc) (ls : Array Slot) (hW : WD k A s.heap (wMCo k a_th (a_in 0) (a_ou 0) (a_ru 0) (a_no 0) (a_fo 0) (a_rd 0) (a_pa 0) sv_th th_0 ++ wRules k a_ru ru_0 ++ wCourt k a_no no_0 ++ wCourt k a_fo fo_j12) H locs) (hl : lv_has ls 6 [(0, .ref (a_th 0)), (1, .int v1_0), (2, .int w2_j12), (3, .int w3_j12), (4, .int w4_j12)]) (hf : l_X8_bestOrder_12 n sv_th th_0 ru_0 no_0 v1_0 N_12 fo_j12 w2_j12 w3_j12 w4_j12 = some res), W p l e { frames := 7, cells := 1, slots := 6, locals := 168 } s m args below meth c H locs 1 6 Q (F0 m 12 ls []) := by
    intro N_12
    induction N_12 with
    | zero => intro fo_j12 w2_j12 w3_j12 w4_j12 H locs ls hW hl hf; exact o0 hf
    | succ N_12 ih_12 =>
      intro fo_j12 w2_j12 w3_j12 w4_j12 H locs ls hW hl hf
      have hf : s_X8_bestOrder_12 n sv_th th_0 ru_0 no_0 v1_0 (l_X8_bestOrder_12 n sv_th th_0 ru_0 no_0 v1_0 N_12) fo_j12 w2_j12 w3_j12 w4_j12 = some res := hf
      unfold s_X8_bestOrder_12 at hf
      refine k_iload E hl 4 dX8_bestOrder_12 rfl ?_
      refine lv_iconst (v := (2 : Int32)) E.hx E.hb dX8_bestOrder_14 ic_2 ?_
      refine lv_icmp_gt (tgt := 63) E.hx E.hb dX8_bestOrder_15 (by decide) (fun hc => ?_) (fun hc => ?_)
      · have hf := oT hc hf
        refine k_iload_n E hl 2 dX8_bestOrder_63 rfl ?_
        exact hret _ fo_j12 _ _ _ _ _ _ hW (Option.some.inj hf).symm rfl (by decide) (by decide) dX8_bestOrder_64
      · have hf := oF hc hf
        refine k_aload_n E hl 0 dX8_bestOrder_18 rfl ?_
        refine gf_X8_35 E hW 0 rfl rfl dX8_bestOrder_19 ?_
        refine k_aload_n E hl 0 dX8_bestOrder_22 rfl ?_
        refine gf_X8_31 E hW 0 rfl rfl dX8_bestOrder_23 ?_
        obtain ⟨fo_2, hg, hf⟩ := ob hf
        refine k_callVv (As := [.ref (a_no 0)]) (rest := []) (ws2 := fun u => wMCo k a_th (a_in 0) (a_ou 0) (a_ru 0) (a_no 0) (a_fo 0) (a_rd 0) (a_pa 0) sv_th th_0 ++ wRules k a_ru ru_0 ++ wCourt k a_no no_0 ++ wCourt k a_fo (u)) (c_X2_copyFrom n l k a_fo a_no fo_j12 no_0 fo_2 hg) E vl_X8_90 dX8_bestOrder_26 rfl (List.range' 16 12 ++ List.range' 4 12) 1 16 hW hA hl rfl (by simp only [List.map_append]; exact app2 (blk_map (wMCo k a_th (a_in 0) (a_ou 0) (a_ru 0) (a_no 0) (a_fo 0) (a_rd 0) (a_pa 0) sv_th th_0 ++ wRules k a_ru ru_0 ++ wCourt k a_no no_0) (wCourt k a_fo fo_j12) [] 16 12 (by simp only [List.append_assoc, List.nil_append, List.append_nil]) rfl rfl) (blk_map (wMCo k a_th (a_in 0) (a_ou 0) (a_ru 0) (a_no 0) (a_fo 0) (a_rd 0) (a_pa 0) sv_th th_0 ++ wRules k a_ru ru_0) (wCourt k a_no no_0) (wCourt k a_fo fo_j12) 4 12 (by simp only [List.append_assoc, List.nil_append, List.append_nil]) rfl rfl)) rfl rfl ⟨by decide, by decide⟩ ⟨by decide, by decide⟩ (Nat.le_of_ble_eq_true rfl) rfl (fun _ => rfl) (fun u => by show putW _ (_ ++ _) (_ ++ _) = _; rw [putW_app _ _ _ _ _ rfl, blk_put (wMCo k a_th (a_in 0) (a_ou 0) (a_ru 0) (a_no 0) (a_fo 0) (a_rd 0) (a_pa 0) sv_th th_0 ++ wRules k a_ru ru_0 ++ wCourt k a_no no_0) (wCourt k a_fo fo_j12) [] (wCourt k a_fo (u)) 16 12 (by simp only [List.append_assoc, List.nil_append, List.append_nil]) rfl rfl rfl, blk_put (wMCo k a_th (a_in 0) (a_ou 0) (a_ru 0) (a_no 0) (a_fo 0) (a_rd 0) (a_pa 0) sv_th th_0 ++ wRules k a_ru ru_0) (wCourt k a_no no_0) (wCourt k a_fo (u)) (wCourt k a_no no_0) 4 12 (by simp only [List.append_assoc, List.nil_append, List.append_nil]) rfl rfl rfl]; try simp only [List.append_assoc, List.nil_append, List.append_nil]) (fun u H locs hp hW => ?_)
        cases hp
        have hW : WD k A s.heap (wMCo k a_th (a_in 0) (a_ou 0) (a_ru 0) (a_no 0) (a_fo 0) (a_rd 0) (a_pa 0) sv_th th_0 ++ wRules k a_ru ru_0 ++ wCourt k a_no no_0 ++ wCourt k a_fo fo_2) H locs := hW
        refine k_aload_n E hl 0 dX8_bestOrder_29 rfl ?_
        refine gf_X8_35 E hW 0 rfl rfl dX8_bestOrder_30 ?_
        refine k_iload E hl 4 dX8_bestOrder_33 rfl ?_
        obtain ⟨fo_3, efo_3, hf⟩ := oL hf
        refine pf_X8_111 (ws2 := wMCo k a_th (a_in 0) (a_ou 0) (a_ru 0) (a_no 0) (a_fo 0) (a_rd 0) (a_pa 0) sv_th th_0 ++ wRules k a_ru ru_0 ++ wCourt k a_no no_0 ++ wCourt k a_fo fo_3) E hW 16 rfl rfl rfl (Nat.le_of_ble_eq_true rfl) dX8_bestOrder_35 (by rw [efo_3]; rfl) (fun H locs hW => ?_)
        refine k_aload_n E hl 0 dX8_bestOrder_38 rfl ?_
        refine k_iload_n E hl 1 dX8_bestOrder_39 rfl ?_
        obtain ⟨fo_4, r_5, hg, hf⟩ := ob2 hf
        refine k_callVi (As := [.int v1_0]) (rest := []) (ws2 := fun u => wMCo k a_th (a_in 0) (a_ou 0) (a_ru 0) (a_no 0) (a_fo 0) (a_rd 0) (a_pa 0) sv_th th_0 ++ wRules k a_ru ru_0 ++ wCourt k a_no no_0 ++ wCourt k a_fo (u)) (c_X8_pass n l k a_th a_in a_ou a_ru a_no a_fo a_rd a_pa sv_th th_0 ru_0 no_0 fo_3 v1_0 (fo_4, r_5) hg) E vl_X8_350 dX8_bestOrder_40 rfl (List.range' 0 28) 6 0 hW hA hl rfl (blk_map [] (wMCo k a_th (a_in 0) (a_ou 0) (a_ru 0) (a_no 0) (a_fo 0) (a_rd 0) (a_pa 0) sv_th th_0 ++ wRules k a_ru ru_0 ++ wCourt k a_no no_0 ++ wCourt k a_fo fo_3) [] 0 28 (by simp only [List.nil_append, List.append_nil]) rfl rfl) rfl rfl ⟨by decide, by decide⟩ ⟨by decide, by decide⟩ (Nat.le_of_ble_eq_true rfl) rfl (fun _ => rfl) (fun u => by rw [blk_put [] (wMCo k a_th (a_in 0) (a_ou 0) (a_ru 0) (a_no 0) (a_fo 0) (a_rd 0) (a_pa 0) sv_th th_0 ++ wRules k a_ru ru_0 ++ wCourt k a_no no_0 ++ wCourt k a_fo fo_3) [] (wMCo k a_th (a_in 0) (a_ou 0) (a_ru 0) (a_no 0) (a_fo 0) (a_rd 0) (a_pa 0) sv_th th_0 ++ wRules k a_ru ru_0 ++ wCourt k a_no no_0 ++ wCourt k a_fo (u)) 0 28 (by simp only [List.nil_append, List.append_nil]) rfl rfl rfl]; try simp only [List.nil_append, List.append_nil]) (fun r u H locs hp hW => ?_)
        cases hp
        have hW : WD k A s.heap (wMCo k a_th (a_in 0) (a_ou 0) (a_ru 0) (a_no 0) (a_fo 0) (a_rd 0) (a_pa 0) sv_th th_0 ++ wRules k a_ru ru_0 ++ wCourt k a_no no_0 ++ wCourt k a_fo fo_4) H locs := hW
        refine k_istore (lv' := [(5, .int r_5), (0, .ref (a_th 0)), (1, .int v1_0), (2, .int w2_j12), (3, .int w3_j12), (4, .int w4_j12)]) E rfl hl dX8_bestOrder_43 (by decide) rfl (fun ls hl => ?_)
        refine k_iload E hl 0 dX8_bestOrder_45 rfl ?_
        refine k_iload_n E hl 4 dX8_bestOrder_47 rfl ?_
        refine lv_icmp_le (tgt := 57) E.hx E.hb dX8_bestOrder_48 (by decide) (fun hc => ?_) (fun hc => ?_)
        · have hf := oT hc hf
          obtain ⟨v4_6, ev4_6, hf⟩ := oL hf
          refine k_iinc (lv' := [(4, .int v4_6), (5, .int r_5), (0, .ref (a_th 0)), (1, .int v1_0), (2, .int w2_j12), (3, .int w3_j12)]) E hl 5 dX8_bestOrder_57 rfl (ev4_6.trans (congrArg (fun z => w4_j12 + z) ic_1.symm)) (by decide) rfl (fun ls hl => ?_)
          refine lv_goto (tgt := 12) E.hx E.hb dX8_bestOrder_60 (by decide) ?_
          exact ih_12 fo_4 w2_j12 w3_j12 v4_6 _ _ _ hW (lv_sub hl [2, 3, 4, 5, 0] rfl) hf
        · have hf := oF hc hf
          refine k_iload E hl 0 dX8_bestOrder_51 rfl ?_
          refine k_istore_n (lv' := [(3, .int r_5), (5, .int r_5), (0, .ref (a_th 0)), (1, .int v1_0), (2, .int w2_j12), (4, .int w4_j12)]) E rfl hl dX8_bestOrder_53 rfl (by decide) rfl (fun ls hl => ?_)
          refine k_iload E hl 5 dX8_bestOrder_54 rfl ?_
          refine k_istore_n (lv' := [(2, .int w4_j12), (3, .int r_5), (5, .int r_5), (0, .ref (a_th 0)), (1, .int v1_0), (4, .int w4_j12)]) E rfl hl dX8_bestOrder_56 rfl (by decide) rfl (fun ls hl => ?_)
          obtain ⟨v4_7, ev4_7, hf⟩ := oL hf
          refine k_iinc (lv' := [(4, .int v4_7), (2, .int w4_j12), (3, .int r_5), (5, .int r_5), (0, .ref (a_th 0)), (1, .int v1_0)]) E hl 5 dX8_bestOrder_57 rfl (ev4_7.trans (congrArg (fun z => w4_j12 + z) ic_1.symm)) (by decide) rfl (fun ls hl => ?_)
          refine lv_goto (tgt := 12) E.hx E.hb dX8_bestOrder_60 (by decide) ?_
          exact ih_12 fo_4 w4_j12 r_5 v4_7 _ _ _ hW (lv_sub hl [4, 5, 1, 2, 0] rfl) hf
  exact L_12 n fo_0 (0 : Int32) (-1 : Int32) (0 : Int32) _ _ _ hW (lv_sub hl [3, 4, 2, 1, 0] rfl) hf
def s_X8_helps_52 (n : Nat) (sv_th : Value) (th_0 : OS) (ru_0 : OS) (no_0 : OS) (w1_j52 : Int32) (w2_j52 : Int32) (w3_j52 : Int32) (rc_52 : (OS) → (Int32) → Option (OS × Int32 × Nat)) (fo_j52 : OS) (w4_j52 : Int32) : Option (OS × Int32 × Nat) :=
  if w3_j52 < w4_j52 then (
  some (fo_j52, (-1 : Int32), 0)) else (
  bnd (f_X2_copyFrom n fo_j52 no_0) (fun (fo_7 : OS) =>
  bnd (f_X2_release n fo_7 w1_j52 w4_j52) (fun (fo_8 : OS) =>
  bnd (f_X8_passToHearing n sv_th th_0 ru_0 no_0 fo_8) (fun (fo_9 : OS) =>
  bnd (f_X6_get n (7 : Int32) 420 (fo_9.2.1 13) w2_j52 (3 : Int32)) (fun (r_10 : Int32) =>
  if r_10 = (1 : Int32) then (
  some (fo_9, w4_j52, 0)) else (
  Let (w4_j52 + (1 : Int32)) (fun v4_11 : Int32 =>
  rc_52 fo_9 v4_11)))))))
def l_X8_helps_52 (n : Nat) (sv_th : Value) (th_0 : OS) (ru_0 : OS) (no_0 : OS) (w1_j52 : Int32) (w2_j52 : Int32) (w3_j52 : Int32) : Nat → (OS) → (Int32) → Option (OS × Int32 × Nat)
  | 0 => fun _ _ => none
  | N + 1 => s_X8_helps_52 n sv_th th_0 ru_0 no_0 w1_j52 w2_j52 w3_j52 (l_X8_helps_52 n sv_th th_0 ru_0 no_0 w1_j52 w2_j52 w3_j52 N)
def f_X8_helps (n : Nat) (sv_th : Value) (th_0 : OS) (ru_0 : OS) (no_0 : OS) (fo_0 : OS) (v1_0 : Int32) (v2_0 : Int32) : Option (OS × Int32 × Nat) :=
  bnd (f_X8_needLoan n sv_th th_0 no_0 v1_0) (fun (cd_1 : Nat) =>
  if cd_1 = 0 then (
  bnd (f_X8_needClaim n sv_th th_0 no_0 v2_0) (fun (cd_2 : Nat) =>
  if cd_2 = 0 then (
  bnd (f_X2_waits n no_0 v2_0) (fun (r_3 : Int32) =>
  if r_3 = 0 then (
  some (fo_0, (-1 : Int32), 0)) else (
  bnd (f_X8_nextHearing n sv_th th_0 ru_0 no_0) (fun (r_4 : Int32) =>
  if r_4 = (-1 : Int32) then (
  some (fo_0, (-1 : Int32), 0)) else (
  bnd (f_X6_get n (8 : Int32) 640 (no_0.2.1 12) v1_0 (1 : Int32)) (fun (r_5 : Int32) =>
  Let (if r_5 < (64 : Int32) then r_5 else (64 : Int32)) (fun v3_6 : Int32 =>
  l_X8_helps_52 n sv_th th_0 ru_0 no_0 v1_0 v2_0 v3_6 n fo_0 (0 : Int32)))))))) else (
  some (fo_0, (0 : Int32), cd_2)))) else (
  some (fo_0, (0 : Int32), cd_1)))
set_option maxHeartbeats 4000000 in
set_option maxRecDepth 100000 in
theorem c_X8_helps (n : Nat) (l : Launch) (k : KT) (hx : XH l k) (a_th : Nat → Nat) (a_in : Nat → Nat) (a_ou : Nat → Nat) (a_ru : Nat → Nat) (a_no : Nat → Nat) (a_fo : Nat → Nat) (a_rd : Nat → Nat) (a_pa : Nat → Nat) (sv_th : Value) (th_0 : OS) (ru_0 : OS) (no_0 : OS) (fo_0 : OS) (v1_0 : Int32) (v2_0 : Int32) (res : (OS × Int32 × Nat)) (hf : f_X8_helps n sv_th th_0 ru_0 no_0 fo_0 v1_0 v2_0 = some res) : CX l k yX8_helps cX8_helps 5 (some .int) 7 2 12 166 [.ref (a_th 0), .int v1_0, .int v2_0] (wMCo k a_th (a_in 0) (a_ou 0) (a_ru 0) (a_no 0) (a_fo 0) (a_rd 0) (a_pa 0) sv_th th_0 ++ wRules k a_ru ru_0 ++ wCourt k a_no no_0 ++ wCourt k a_fo fo_0) (Qi k (fun u : OS => wMCo k a_th (a_in 0) (a_ou 0) (a_ru 0) (a_no 0) (a_fo 0) (a_rd 0) (a_pa 0) sv_th th_0 ++ wRules k a_ru ru_0 ++ wCourt k a_no no_0 ++ wCourt k a_fo u) (fun (r : Int32) (u : OS) => res = (u, r, 0))) (Xq k (fun u : OS => wMCo k a_th (a_in 0) (a_ou 0) (a_ru 0) (a_no 0) (a_fo 0) (a_rd 0) (a_pa 0) sv_th th_0 ++ wRules k a_ru ru_0 ++ wCourt k a_no no_0 ++ wCourt k a_fo u) (fun (cd : Nat) (u : OS) => cd ≠ 0 ∧ res = (u, (0 : Int32), cd))) := by
  refine CX.ofI hx rfl (by decide) (Nat.le_of_ble_eq_true rfl) (by decide) (by decide) (fun p e s m args below meth c A Q E hnm hW hA hret hout hthr ls hl => ?_)
  have hl : lv_has ls 5 [(0, .ref (a_th 0)), (1, .int v1_0), (2, .int v2_0)] := hl
  unfold f_X8_helps at hf
  refine k_aload_n E hl 0 dX8_helps_0 rfl ?_
  refine k_iload_n E hl 1 dX8_helps_1 rfl ?_
  obtain ⟨cd_1, hg, hf⟩ := ob hf
  refine k_callXv (As := [.int v1_0]) (rest := []) (ws2 := fun u => wMCo k a_th (a_in 0) (a_ou 0) (a_ru 0) (a_no 0) (a_fo 0) (a_rd 0) (a_pa 0) sv_th th_0 ++ wRules k a_ru ru_0 ++ wCourt k a_no no_0 ++ wCourt k a_fo fo_0) (c_X8_needLoan n l k hx a_th a_in a_ou a_ru a_no a_fo a_rd a_pa sv_th th_0 no_0 v1_0 cd_1 hg) E vl_X8_186 dX8_helps_2 rfl (List.range' 0 1 ++ List.range' 4 12) 6 0 hW hA hl rfl (by simp only [List.map_append]; exact app2 (blk_map [] (wMCo k a_th (a_in 0) (a_ou 0) (a_ru 0) (a_no 0) (a_fo 0) (a_rd 0) (a_pa 0) sv_th th_0) (wRules k a_ru ru_0 ++ wCourt k a_no no_0 ++ wCourt k a_fo fo_0) 0 1 (by simp only [List.append_assoc, List.nil_append, List.append_nil]) rfl rfl) (blk_map (wMCo k a_th (a_in 0) (a_ou 0) (a_ru 0) (a_no 0) (a_fo 0) (a_rd 0) (a_pa 0) sv_th th_0 ++ wRules k a_ru ru_0) (wCourt k a_no no_0) (wCourt k a_fo fo_0) 4 12 (by simp only [List.append_assoc, List.nil_append, List.append_nil]) rfl rfl)) rfl rfl ⟨by decide, by decide⟩ ⟨by decide, by decide⟩ (Nat.le_of_ble_eq_true rfl) rfl (fun _ => rfl) (fun u => by show putW _ (_ ++ _) (_ ++ _) = _; rw [putW_app _ _ _ _ _ rfl, blk_put [] (wMCo k a_th (a_in 0) (a_ou 0) (a_ru 0) (a_no 0) (a_fo 0) (a_rd 0) (a_pa 0) sv_th th_0) (wRules k a_ru ru_0 ++ wCourt k a_no no_0 ++ wCourt k a_fo fo_0) (wMCo k a_th (a_in 0) (a_ou 0) (a_ru 0) (a_no 0) (a_fo 0) (a_rd 0) (a_pa 0) sv_th th_0) 0 1 (by simp only [List.append_assoc, List.nil_append, List.append_nil]) rfl rfl rfl, blk_put (wMCo k a_th (a_in 0) (a_ou 0) (a_ru 0) (a_no 0) (a_fo 0) (a_rd 0) (a_pa 0) sv_th th_0 ++ wRules k a_ru ru_0) (wCourt k a_no no_0) (wCourt k a_fo fo_0) (wCourt k a_no no_0) 4 12 (by simp only [List.append_assoc, List.nil_append, List.append_nil]) rfl rfl rfl]; try simp only [List.append_assoc, List.nil_append, List.append_nil]) (fun cd9 u ce9 q9 H locs hp hW hce hcv hcls => ?_) (fun u H locs hp hW => ?_)
  · obtain ⟨hcd, hp⟩ := hp
    cases hp
    have hW : WD k A s.heap (wMCo k a_th (a_in 0) (a_ou 0) (a_ru 0) (a_no 0) (a_fo 0) (a_rd 0) (a_pa 0) sv_th th_0 ++ wRules k a_ru ru_0 ++ wCourt k a_no no_0 ++ wCourt k a_fo fo_0) H locs := hW
    have hf := oF hcd hf
    exact hout _ fo_0 _ _ _ _ _ _ _ _ _ ⟨hcd, (Option.some.inj hf).symm⟩ hW hce hcv hcls (by decide) (by decide)
  cases hp
  have hW : WD k A s.heap (wMCo k a_th (a_in 0) (a_ou 0) (a_ru 0) (a_no 0) (a_fo 0) (a_rd 0) (a_pa 0) sv_th th_0 ++ wRules k a_ru ru_0 ++ wCourt k a_no no_0 ++ wCourt k a_fo fo_0) H locs := hW
  have hf := oT rfl hf
  refine k_aload_n E hl 0 dX8_helps_5 rfl ?_
  refine k_iload_n E hl 2 dX8_helps_6 rfl ?_
  obtain ⟨cd_2, hg, hf⟩ := ob hf
  refine k_callXv (As := [.int v2_0]) (rest := []) (ws2 := fun u => wMCo k a_th (a_in 0) (a_ou 0) (a_ru 0) (a_no 0) (a_fo 0) (a_rd 0) (a_pa 0) sv_th th_0 ++ wRules k a_ru ru_0 ++ wCourt k a_no no_0 ++ wCourt k a_fo fo_0) (c_X8_needClaim n l k hx a_th a_in a_ou a_ru a_no a_fo a_rd a_pa sv_th th_0 no_0 v2_0 cd_2 hg) E vl_X8_217 dX8_helps_7 rfl (List.range' 0 1 ++ List.range' 4 12) 6 0 hW hA hl rfl (by simp only [List.map_append]; exact app2 (blk_map [] (wMCo k a_th (a_in 0) (a_ou 0) (a_ru 0) (a_no 0) (a_fo 0) (a_rd 0) (a_pa 0) sv_th th_0) (wRules k a_ru ru_0 ++ wCourt k a_no no_0 ++ wCourt k a_fo fo_0) 0 1 (by simp only [List.append_assoc, List.nil_append, List.append_nil]) rfl rfl) (blk_map (wMCo k a_th (a_in 0) (a_ou 0) (a_ru 0) (a_no 0) (a_fo 0) (a_rd 0) (a_pa 0) sv_th th_0 ++ wRules k a_ru ru_0) (wCourt k a_no no_0) (wCourt k a_fo fo_0) 4 12 (by simp only [List.append_assoc, List.nil_append, List.append_nil]) rfl rfl)) rfl rfl ⟨by decide, by decide⟩ ⟨by decide, by decide⟩ (Nat.le_of_ble_eq_true rfl) rfl (fun _ => rfl) (fun u => by show putW _ (_ ++ _) (_ ++ _) = _; rw [putW_app _ _ _ _ _ rfl, blk_put [] (wMCo k a_th (a_in 0) (a_ou 0) (a_ru 0) (a_no 0) (a_fo 0) (a_rd 0) (a_pa 0) sv_th th_0) (wRules k a_ru ru_0 ++ wCourt k a_no no_0 ++ wCourt k a_fo fo_0) (wMCo k a_th (a_in 0) (a_ou 0) (a_ru 0) (a_no 0) (a_fo 0) (a_rd 0) (a_pa 0) sv_th th_0) 0 1 (by simp only [List.append_assoc, List.nil_append, List.append_nil]) rfl rfl rfl, blk_put (wMCo k a_th (a_in 0) (a_ou 0) (a_ru 0) (a_no 0) (a_fo 0) (a_rd 0) (a_pa 0) sv_th th_0 ++ wRules k a_ru ru_0) (wCourt k a_no no_0) (wCourt k a_fo fo_0) (wCourt k a_no no_0) 4 12 (by simp only [List.append_assoc, List.nil_append, List.append_nil]) rfl rfl rfl]; try simp only [List.append_assoc, List.nil_append, List.append_nil]) (fun cd9 u ce9 q9 H locs hp hW hce hcv hcls => ?_) (fun u H locs hp hW => ?_)
  · obtain ⟨hcd, hp⟩ := hp
    cases hp
    have hW : WD k A s.heap (wMCo k a_th (a_in 0) (a_ou 0) (a_ru 0) (a_no 0) (a_fo 0) (a_rd 0) (a_pa 0) sv_th th_0 ++ wRules k a_ru ru_0 ++ wCourt k a_no no_0 ++ wCourt k a_fo fo_0) H locs := hW
    have hf := oF hcd hf
    exact hout _ fo_0 _ _ _ _ _ _ _ _ _ ⟨hcd, (Option.some.inj hf).symm⟩ hW hce hcv hcls (by decide) (by decide)
  cases hp
  have hW : WD k A s.heap (wMCo k a_th (a_in 0) (a_ou 0) (a_ru 0) (a_no 0) (a_fo 0) (a_rd 0) (a_pa 0) sv_th th_0 ++ wRules k a_ru ru_0 ++ wCourt k a_no no_0 ++ wCourt k a_fo fo_0) H locs := hW
  have hf := oT rfl hf
  refine k_aload_n E hl 0 dX8_helps_10 rfl ?_
  refine gf_X8_31 E hW 0 rfl rfl dX8_helps_11 ?_
  refine k_iload_n E hl 2 dX8_helps_14 rfl ?_
  obtain ⟨r_3, hg, hf⟩ := ob hf
  refine k_callVi (As := [.int v2_0]) (rest := []) (ws2 := fun u => wMCo k a_th (a_in 0) (a_ou 0) (a_ru 0) (a_no 0) (a_fo 0) (a_rd 0) (a_pa 0) sv_th th_0 ++ wRules k a_ru ru_0 ++ wCourt k a_no no_0 ++ wCourt k a_fo fo_0) (c_X2_waits n l k a_no no_0 v2_0 r_3 hg) E vl_X8_298 dX8_helps_15 rfl (List.range' 4 12) 1 4 hW hA hl rfl (by exact blk_map (wMCo k a_th (a_in 0) (a_ou 0) (a_ru 0) (a_no 0) (a_fo 0) (a_rd 0) (a_pa 0) sv_th th_0 ++ wRules k a_ru ru_0) (wCourt k a_no no_0) (wCourt k a_fo fo_0) 4 12 (by simp only [List.append_assoc, List.nil_append, List.append_nil]) rfl rfl) rfl rfl ⟨by decide, by decide⟩ ⟨by decide, by decide⟩ (Nat.le_of_ble_eq_true rfl) rfl (fun _ => rfl) (fun u => by rw [blk_put (wMCo k a_th (a_in 0) (a_ou 0) (a_ru 0) (a_no 0) (a_fo 0) (a_rd 0) (a_pa 0) sv_th th_0 ++ wRules k a_ru ru_0) (wCourt k a_no no_0) (wCourt k a_fo fo_0) (wCourt k a_no no_0) 4 12 (by simp only [List.append_assoc, List.nil_append, List.append_nil]) rfl rfl rfl]; try simp only [List.append_assoc, List.nil_append, List.append_nil]) (fun r u H locs hp hW => ?_)
  cases hp
  have hW : WD k A s.heap (wMCo k a_th (a_in 0) (a_ou 0) (a_ru 0) (a_no 0) (a_fo 0) (a_rd 0) (a_pa 0) sv_th th_0 ++ wRules k a_ru ru_0 ++ wCourt k a_no no_0 ++ wCourt k a_fo fo_0) H locs := hW
  refine lv_if_eq (tgt := 29) E.hx E.hb dX8_helps_18 (by decide) (fun hc => ?_) (fun hc => ?_)
  · have hf := oT hc hf
    refine lv_iconst (v := (-1 : Int32)) E.hx E.hb dX8_helps_29 ic_m1 ?_
    exact hret _ fo_0 _ _ _ _ _ _ hW (Option.some.inj hf).symm rfl (by decide) (by decide) dX8_helps_30
  · have hf := oF hc hf
    refine k_aload_n E hl 0 dX8_helps_21 rfl ?_
    obtain ⟨r_4, hg, hf⟩ := ob hf
    refine k_callVi (As := []) (rest := []) (ws2 := fun u => wMCo k a_th (a_in 0) (a_ou 0) (a_ru 0) (a_no 0) (a_fo 0) (a_rd 0) (a_pa 0) sv_th th_0 ++ wRules k a_ru ru_0 ++ wCourt k a_no no_0 ++ wCourt k a_fo fo_0) (c_X8_nextHearing n l k a_th a_in a_ou a_ru a_no a_fo a_rd a_pa sv_th th_0 ru_0 no_0 r_4 hg) E vl_X8_341 dX8_helps_22 rfl (List.range' 0 1 ++ List.range' 1 3 ++ List.range' 4 12) 6 0 hW hA hl rfl (by simp only [List.map_append]; exact app2 (app2 (blk_map [] (wMCo k a_th (a_in 0) (a_ou 0) (a_ru 0) (a_no 0) (a_fo 0) (a_rd 0) (a_pa 0) sv_th th_0) (wRules k a_ru ru_0 ++ wCourt k a_no no_0 ++ wCourt k a_fo fo_0) 0 1 (by simp only [List.append_assoc, List.nil_append, List.append_nil]) rfl rfl) (blk_map (wMCo k a_th (a_in 0) (a_ou 0) (a_ru 0) (a_no 0) (a_fo 0) (a_rd 0) (a_pa 0) sv_th th_0) (wRules k a_ru ru_0) (wCourt k a_no no_0 ++ wCourt k a_fo fo_0) 1 3 (by simp only [List.append_assoc, List.nil_append, List.append_nil]) rfl rfl)) (blk_map (wMCo k a_th (a_in 0) (a_ou 0) (a_ru 0) (a_no 0) (a_fo 0) (a_rd 0) (a_pa 0) sv_th th_0 ++ wRules k a_ru ru_0) (wCourt k a_no no_0) (wCourt k a_fo fo_0) 4 12 (by simp only [List.append_assoc, List.nil_append, List.append_nil]) rfl rfl)) rfl rfl ⟨by decide, by decide⟩ ⟨by decide, by decide⟩ (Nat.le_of_ble_eq_true rfl) rfl (fun _ => rfl) (fun u => by show putW _ (_ ++ _) (_ ++ _) = _; rw [putW_app _ _ _ _ _ rfl, putW_app _ _ _ _ _ rfl, blk_put [] (wMCo k a_th (a_in 0) (a_ou 0) (a_ru 0) (a_no 0) (a_fo 0) (a_rd 0) (a_pa 0) sv_th th_0) (wRules k a_ru ru_0 ++ wCourt k a_no no_0 ++ wCourt k a_fo fo_0) (wMCo k a_th (a_in 0) (a_ou 0) (a_ru 0) (a_no 0) (a_fo 0) (a_rd 0) (a_pa 0) sv_th th_0) 0 1 (by simp only [List.append_assoc, List.nil_append, List.append_nil]) rfl rfl rfl, blk_put (wMCo k a_th (a_in 0) (a_ou 0) (a_ru 0) (a_no 0) (a_fo 0) (a_rd 0) (a_pa 0) sv_th th_0) (wRules k a_ru ru_0) (wCourt k a_no no_0 ++ wCourt k a_fo fo_0) (wRules k a_ru ru_0) 1 3 (by simp only [List.append_assoc, List.nil_append, List.append_nil]) rfl rfl rfl, blk_put (wMCo k a_th (a_in 0) (a_ou 0) (a_ru 0) (a_no 0) (a_fo 0) (a_rd 0) (a_pa 0) sv_th th_0 ++ wRules k a_ru ru_0) (wCourt k a_no no_0) (wCourt k a_fo fo_0) (wCourt k a_no no_0) 4 12 (by simp only [List.append_assoc, List.nil_append, List.append_nil]) rfl rfl rfl]; try simp only [List.append_assoc, List.nil_append, List.append_nil]) (fun r u H locs hp hW => ?_)
    cases hp
    have hW : WD k A s.heap (wMCo k a_th (a_in 0) (a_ou 0) (a_ru 0) (a_no 0) (a_fo 0) (a_rd 0) (a_pa 0) sv_th th_0 ++ wRules k a_ru ru_0 ++ wCourt k a_no no_0 ++ wCourt k a_fo fo_0) H locs := hW
    refine lv_iconst (v := (-1 : Int32)) E.hx E.hb dX8_helps_25 ic_m1 ?_
    refine lv_icmp_ne (tgt := 31) E.hx E.hb dX8_helps_26 (by decide) (fun hc => ?_) (fun hc => ?_)
    · have hf := oF hc hf
      refine lv_bipush (v := (64 : Int32)) E.hx E.hb dX8_helps_31 bp_64 ?_
      refine k_aload_n E hl 0 dX8_helps_33 rfl ?_
      refine gf_X8_31 E hW 0 rfl rfl dX8_helps_34 ?_
      refine gf_X8_195 E hW 4 rfl rfl dX8_helps_37 ?_
      refine k_iload_n E hl 1 dX8_helps_40 rfl ?_
      refine lv_iconst (v := (1 : Int32)) E.hx E.hb dX8_helps_41 ic_1 ?_
      obtain ⟨r_5, hg, hf⟩ := ob hf
      refine k_callVi (As := [.int v1_0, .int (1 : Int32)]) (rest := [.int (64 : Int32)]) (ws2 := fun u => wMCo k a_th (a_in 0) (a_ou 0) (a_ru 0) (a_no 0) (a_fo 0) (a_rd 0) (a_pa 0) sv_th th_0 ++ wRules k a_ru ru_0 ++ wCourt k a_no no_0 ++ wCourt k a_fo fo_0) (c_X6_get n l k (fun j => a_no (5 + j)) (8 : Int32) 640 (no_0.2.1 12) v1_0 (1 : Int32) r_5 hg) E vl_X8_171 dX8_helps_42 rfl [9, 10] 5 9 hW hA hl rfl rfl rfl rfl ⟨by decide, by decide⟩ ⟨by decide, by decide⟩ (Nat.le_of_ble_eq_true rfl) rfl (fun _ => rfl) (fun _ => rfl) (fun r u H locs hp hW => ?_)
      cases hp
      have hW : WD k A s.heap (wMCo k a_th (a_in 0) (a_ou 0) (a_ru 0) (a_no 0) (a_fo 0) (a_rd 0) (a_pa 0) sv_th th_0 ++ wRules k a_ru ru_0 ++ wCourt k a_no no_0 ++ wCourt k a_fo fo_0) H locs := hW
      refine va_mmin E.hx E.hb (E.hml.trans hl.1.symm) E.ho (E.w tm_1191 rfl) (E.w tm_617 rfl) (E.w tm_110 rfl) (E.w tm_618 rfl) (by decide) (Nat.le_of_ble_eq_true rfl) (by decide) (by decide) dX8_helps_45 ?_
      obtain ⟨v3_6, ev3_6, hf⟩ := oL hf
      refine k_istore_n (lv' := [(3, .int v3_6), (0, .ref (a_th 0)), (1, .int v1_0), (2, .int v2_0)]) E ev3_6 hl dX8_helps_48 rfl (by decide) rfl (fun ls hl => ?_)
      refine lv_iconst (v := (0 : Int32)) E.hx E.hb dX8_helps_49 ic_0 ?_
      refine k_istore (lv' := [(4, .int (0 : Int32)), (3, .int v3_6), (0, .ref (a_th 0)), (1, .int v1_0), (2, .int v2_0)]) E rfl hl dX8_helps_50 (by decide) rfl (fun ls hl => ?_)
      have L_52 : ∀ (N_52 : Nat) (fo_j52 : OS) (w4_j52 : Int32) (H : Heap) (locs : List Loc) (ls : Array Slot) (hW : WD k A s.heap (wMCo k a_th (a_in 0) (a_ou 0) (a_ru 0) (a_no 0) (a_fo 0) (a_rd 0) (a_pa 0) sv_th th_0 ++ wRules k a_ru ru_0 ++ wCourt k a_no no_0 ++ wCourt k a_fo fo_j52) H locs) (hl : lv_has ls 5 [(0, .ref (a_th 0)), (1, .int v1_0), (2, .int v2_0), (3, .int v3_6), (4, .int w4_j52)]) (hf : l_X8_helps_52 n sv_th th_0 ru_0 no_0 v1_0 v2_0 v3_6 N_52 fo_j52 w4_j52 = some res), W p l e { frames := 7, cells := 2, slots := 12, locals := 166 } s m args below meth c H locs 2 12 Q (F0 m 52 ls []) := by
        intro N_52
        induction N_52 with
        | zero => intro fo_j52 w4_j52 H locs ls hW hl hf; exact o0 hf
        | succ N_52 ih_52 =>
          intro fo_j52 w4_j52 H locs ls hW hl hf
          have hf : s_X8_helps_52 n sv_th th_0 ru_0 no_0 v1_0 v2_0 v3_6 (l_X8_helps_52 n sv_th th_0 ru_0 no_0 v1_0 v2_0 v3_6 N_52) fo_j52 w4_j52 = some res := hf
          unfold s_X8_helps_52 at hf
          refine k_iload E hl 4 dX8_helps_52 rfl ?_
          refine k_iload_n E hl 3 dX8_helps_54 rfl ?_
          refine lv_icmp_gt (tgt := 108) E.hx E.hb dX8_helps_55 (by decide) (fun hc => ?_) (fun hc => ?_)
          · have hf := oT hc hf
            refine lv_iconst (v := (-1 : Int32)) E.hx E.hb dX8_helps_108 ic_m1 ?_
            exact hret _ fo_j52 _ _ _ _ _ _ hW (Option.some.inj hf).symm rfl (by decide) (by decide) dX8_helps_109
          · have hf := oF hc hf
            refine k_aload_n E hl 0 dX8_helps_58 rfl ?_
            refine gf_X8_35 E hW 0 rfl rfl dX8_helps_59 ?_
            refine k_aload_n E hl 0 dX8_helps_62 rfl ?_
            refine gf_X8_31 E hW 0 rfl rfl dX8_helps_63 ?_
            obtain ⟨fo_7, hg, hf⟩ := ob hf
            refine k_callVv (As := [.ref (a_no 0)]) (rest := []) (ws2 := fun u => wMCo k a_th (a_in 0) (a_ou 0) (a_ru 0) (a_no 0) (a_fo 0) (a_rd 0) (a_pa 0) sv_th th_0 ++ wRules k a_ru ru_0 ++ wCourt k a_no no_0 ++ wCourt k a_fo (u)) (c_X2_copyFrom n l k a_fo a_no fo_j52 no_0 fo_7 hg) E vl_X8_90 dX8_helps_66 rfl (List.range' 16 12 ++ List.range' 4 12) 1 16 hW hA hl rfl (by simp only [List.map_append]; exact app2 (blk_map (wMCo k a_th (a_in 0) (a_ou 0) (a_ru 0) (a_no 0) (a_fo 0) (a_rd 0) (a_pa 0) sv_th th_0 ++ wRules k a_ru ru_0 ++ wCourt k a_no no_0) (wCourt k a_fo fo_j52) [] 16 12 (by simp only [List.append_assoc, List.nil_append, List.append_nil]) rfl rfl) (blk_map (wMCo k a_th (a_in 0) (a_ou 0) (a_ru 0) (a_no 0) (a_fo 0) (a_rd 0) (a_pa 0) sv_th th_0 ++ wRules k a_ru ru_0) (wCourt k a_no no_0) (wCourt k a_fo fo_j52) 4 12 (by simp only [List.append_assoc, List.nil_append, List.append_nil]) rfl rfl)) rfl rfl ⟨by decide, by decide⟩ ⟨by decide, by decide⟩ (Nat.le_of_ble_eq_true rfl) rfl (fun _ => rfl) (fun u => by show putW _ (_ ++ _) (_ ++ _) = _; rw [putW_app _ _ _ _ _ rfl, blk_put (wMCo k a_th (a_in 0) (a_ou 0) (a_ru 0) (a_no 0) (a_fo 0) (a_rd 0) (a_pa 0) sv_th th_0 ++ wRules k a_ru ru_0 ++ wCourt k a_no no_0) (wCourt k a_fo fo_j52) [] (wCourt k a_fo (u)) 16 12 (by simp only [List.append_assoc, List.nil_append, List.append_nil]) rfl rfl rfl, blk_put (wMCo k a_th (a_in 0) (a_ou 0) (a_ru 0) (a_no 0) (a_fo 0) (a_rd 0) (a_pa 0) sv_th th_0 ++ wRules k a_ru ru_0) (wCourt k a_no no_0) (wCourt k a_fo (u)) (wCourt k a_no no_0) 4 12 (by simp only [List.append_assoc, List.nil_append, List.append_nil]) rfl rfl rfl]; try simp only [List.append_assoc, List.nil_append, List.append_nil]) (fun u H locs hp hW => ?_)
            cases hp
            have hW : WD k A s.heap (wMCo k a_th (a_in 0) (a_ou 0) (a_ru 0) (a_no 0) (a_fo 0) (a_rd 0) (a_pa 0) sv_th th_0 ++ wRules k a_ru ru_0 ++ wCourt k a_no no_0 ++ wCourt k a_fo fo_7) H locs := hW
            refine k_aload_n E hl 0 dX8_helps_69 rfl ?_
            refine gf_X8_35 E hW 0 rfl rfl dX8_helps_70 ?_
            refine k_iload_n E hl 1 dX8_helps_73 rfl ?_
            refine k_iload E hl 4 dX8_helps_74 rfl ?_
            obtain ⟨fo_8, hg, hf⟩ := ob hf
            refine k_callVv (As := [.int v1_0, .int w4_j52]) (rest := []) (ws2 := fun u => wMCo k a_th (a_in 0) (a_ou 0) (a_ru 0) (a_no 0) (a_fo 0) (a_rd 0) (a_pa 0) sv_th th_0 ++ wRules k a_ru ru_0 ++ wCourt k a_no no_0 ++ wCourt k a_fo (u)) (c_X2_release n l k a_fo fo_7 v1_0 w4_j52 fo_8 hg) E vl_X8_309 dX8_helps_76 rfl (List.range' 16 12) 1 16 hW hA hl rfl (by exact blk_map (wMCo k a_th (a_in 0) (a_ou 0) (a_ru 0) (a_no 0) (a_fo 0) (a_rd 0) (a_pa 0) sv_th th_0 ++ wRules k a_ru ru_0 ++ wCourt k a_no no_0) (wCourt k a_fo fo_7) [] 16 12 (by simp only [List.append_assoc, List.nil_append, List.append_nil]) rfl rfl) rfl rfl ⟨by decide, by decide⟩ ⟨by decide, by decide⟩ (Nat.le_of_ble_eq_true rfl) rfl (fun _ => rfl) (fun u => by rw [blk_put (wMCo k a_th (a_in 0) (a_ou 0) (a_ru 0) (a_no 0) (a_fo 0) (a_rd 0) (a_pa 0) sv_th th_0 ++ wRules k a_ru ru_0 ++ wCourt k a_no no_0) (wCourt k a_fo fo_7) [] (wCourt k a_fo (u)) 16 12 (by simp only [List.append_assoc, List.nil_append, List.append_nil]) rfl rfl rfl]; try simp only [List.append_assoc, List.nil_append, List.append_nil]) (fun u H locs hp hW => ?_)
            cases hp
            have hW : WD k A s.heap (wMCo k a_th (a_in 0) (a_ou 0) (a_ru 0) (a_no 0) (a_fo 0) (a_rd 0) (a_pa 0) sv_th th_0 ++ wRules k a_ru ru_0 ++ wCourt k a_no no_0 ++ wCourt k a_fo fo_8) H locs := hW
            refine k_aload_n E hl 0 dX8_helps_79 rfl ?_
            obtain ⟨fo_9, hg, hf⟩ := ob hf
            refine k_callVv (As := []) (rest := []) (ws2 := fun u => wMCo k a_th (a_in 0) (a_ou 0) (a_ru 0) (a_no 0) (a_fo 0) (a_rd 0) (a_pa 0) sv_th th_0 ++ wRules k a_ru ru_0 ++ wCourt k a_no no_0 ++ wCourt k a_fo (u)) (c_X8_passToHearing n l k a_th a_in a_ou a_ru a_no a_fo a_rd a_pa sv_th th_0 ru_0 no_0 fo_8 fo_9 hg) E vl_X8_344 dX8_helps_80 rfl (List.range' 0 28) 6 0 hW hA hl rfl (blk_map [] (wMCo k a_th (a_in 0) (a_ou 0) (a_ru 0) (a_no 0) (a_fo 0) (a_rd 0) (a_pa 0) sv_th th_0 ++ wRules k a_ru ru_0 ++ wCourt k a_no no_0 ++ wCourt k a_fo fo_8) [] 0 28 (by simp only [List.nil_append, List.append_nil]) rfl rfl) rfl rfl ⟨by decide, by decide⟩ ⟨by decide, by decide⟩ (Nat.le_of_ble_eq_true rfl) rfl (fun _ => rfl) (fun u => by rw [blk_put [] (wMCo k a_th (a_in 0) (a_ou 0) (a_ru 0) (a_no 0) (a_fo 0) (a_rd 0) (a_pa 0) sv_th th_0 ++ wRules k a_ru ru_0 ++ wCourt k a_no no_0 ++ wCourt k a_fo fo_8) [] (wMCo k a_th (a_in 0) (a_ou 0) (a_ru 0) (a_no 0) (a_fo 0) (a_rd 0) (a_pa 0) sv_th th_0 ++ wRules k a_ru ru_0 ++ wCourt k a_no no_0 ++ wCourt k a_fo (u)) 0 28 (by simp only [List.nil_append, List.append_nil]) rfl rfl rfl]; try simp only [List.nil_append, List.append_nil]) (fun u H locs hp hW => ?_)
            cases hp
            have hW : WD k A s.heap (wMCo k a_th (a_in 0) (a_ou 0) (a_ru 0) (a_no 0) (a_fo 0) (a_rd 0) (a_pa 0) sv_th th_0 ++ wRules k a_ru ru_0 ++ wCourt k a_no no_0 ++ wCourt k a_fo fo_9) H locs := hW
            refine k_aload_n E hl 0 dX8_helps_83 rfl ?_
            refine gf_X8_35 E hW 0 rfl rfl dX8_helps_84 ?_
            refine gf_X8_222 E hW 16 rfl rfl dX8_helps_87 ?_
            refine k_iload_n E hl 2 dX8_helps_90 rfl ?_
            refine lv_iconst (v := (3 : Int32)) E.hx E.hb dX8_helps_91 ic_3 ?_
            obtain ⟨r_10, hg, hf⟩ := ob hf
            refine k_callVi (As := [.int v2_0, .int (3 : Int32)]) (rest := []) (ws2 := fun u => wMCo k a_th (a_in 0) (a_ou 0) (a_ru 0) (a_no 0) (a_fo 0) (a_rd 0) (a_pa 0) sv_th th_0 ++ wRules k a_ru ru_0 ++ wCourt k a_no no_0 ++ wCourt k a_fo fo_9) (c_X6_get n l k (fun j => a_fo (7 + j)) (7 : Int32) 420 (fo_9.2.1 13) v2_0 (3 : Int32) r_10 hg) E vl_X8_171 dX8_helps_92 rfl [23, 24] 5 23 hW hA hl rfl rfl rfl rfl ⟨by decide, by decide⟩ ⟨by decide, by decide⟩ (Nat.le_of_ble_eq_true rfl) rfl (fun _ => rfl) (fun _ => rfl) (fun r u H locs hp hW => ?_)
            cases hp
            have hW : WD k A s.heap (wMCo k a_th (a_in 0) (a_ou 0) (a_ru 0) (a_no 0) (a_fo 0) (a_rd 0) (a_pa 0) sv_th th_0 ++ wRules k a_ru ru_0 ++ wCourt k a_no no_0 ++ wCourt k a_fo fo_9) H locs := hW
            refine lv_iconst (v := (1 : Int32)) E.hx E.hb dX8_helps_95 ic_1 ?_
            refine lv_icmp_ne (tgt := 102) E.hx E.hb dX8_helps_96 (by decide) (fun hc => ?_) (fun hc => ?_)
            · have hf := oF hc hf
              obtain ⟨v4_11, ev4_11, hf⟩ := oL hf
              refine k_iinc (lv' := [(4, .int v4_11), (0, .ref (a_th 0)), (1, .int v1_0), (2, .int v2_0), (3, .int v3_6)]) E hl 4 dX8_helps_102 rfl (ev4_11.trans (congrArg (fun z => w4_j52 + z) ic_1.symm)) (by decide) rfl (fun ls hl => ?_)
              refine lv_goto (tgt := 52) E.hx E.hb dX8_helps_105 (by decide) ?_
              exact ih_52 fo_9 v4_11 _ _ _ hW (lv_sub hl [1, 2, 3, 4, 0] rfl) hf
            · have hf := oT hc hf
              refine k_iload E hl 4 dX8_helps_99 rfl ?_
              exact hret _ fo_9 _ _ _ _ _ _ hW (Option.some.inj hf).symm rfl (by decide) (by decide) dX8_helps_101
      exact L_52 n fo_0 (0 : Int32) _ _ _ hW (lv_sub hl [2, 3, 4, 1, 0] rfl) hf
    · have hf := oT hc hf
      refine lv_iconst (v := (-1 : Int32)) E.hx E.hb dX8_helps_29 ic_m1 ?_
      exact hret _ fo_0 _ _ _ _ _ _ hW (Option.some.inj hf).symm rfl (by decide) (by decide) dX8_helps_30
def f_X8_wouldAppeal (n : Nat) (sv_th : Value) (th_0 : OS) (ru_0 : OS) (no_0 : OS) (v1_0 : Int32) : Option (Int32 × Nat) :=
  bnd (f_X8_needFine n sv_th th_0 no_0 v1_0) (fun (cd_1 : Nat) =>
  if cd_1 = 0 then (
  bnd (f_X2_isAppealable n no_0 v1_0 (ru_0.1 6)) (fun (r_2 : Int32) =>
  if r_2 = 0 then (
  some ((-1 : Int32), 0)) else (
  bnd (f_X2_evidenceFor n no_0 v1_0) (fun (r_3 : Int32) =>
  bnd (f_X2_lessBy n no_0 v1_0 r_3) (fun (r_4 : Int32) =>
  some (r_4, 0)))))) else (
  some ((0 : Int32), cd_1)))
set_option maxHeartbeats 4000000 in
set_option maxRecDepth 100000 in
theorem c_X8_wouldAppeal (n : Nat) (l : Launch) (k : KT) (hx : XH l k) (a_th : Nat → Nat) (a_in : Nat → Nat) (a_ou : Nat → Nat) (a_ru : Nat → Nat) (a_no : Nat → Nat) (a_fo : Nat → Nat) (a_rd : Nat → Nat) (a_pa : Nat → Nat) (sv_th : Value) (th_0 : OS) (ru_0 : OS) (no_0 : OS) (v1_0 : Int32) (res : (Int32 × Nat)) (hf : f_X8_wouldAppeal n sv_th th_0 ru_0 no_0 v1_0 = some res) : CX l k yX8_wouldAppeal cX8_wouldAppeal 2 (some .int) 7 1 6 103 [.ref (a_th 0), .int v1_0] (wMCo k a_th (a_in 0) (a_ou 0) (a_ru 0) (a_no 0) (a_fo 0) (a_rd 0) (a_pa 0) sv_th th_0 ++ wRules k a_ru ru_0 ++ wCourt k a_no no_0) (Qi k (fun u : Unit => wMCo k a_th (a_in 0) (a_ou 0) (a_ru 0) (a_no 0) (a_fo 0) (a_rd 0) (a_pa 0) sv_th th_0 ++ wRules k a_ru ru_0 ++ wCourt k a_no no_0) (fun (r : Int32) (u : Unit) => res = (r, 0))) (Xq k (fun u : Unit => wMCo k a_th (a_in 0) (a_ou 0) (a_ru 0) (a_no 0) (a_fo 0) (a_rd 0) (a_pa 0) sv_th th_0 ++ wRules k a_ru ru_0 ++ wCourt k a_no no_0) (fun (cd : Nat) (u : Unit) => cd ≠ 0 ∧ res = ((0 : Int32), cd))) := by
  refine CX.ofI hx rfl (by decide) (Nat.le_of_ble_eq_true rfl) (by decide) (by decide) (fun p e s m args below meth c A Q E hnm hW hA hret hout hthr ls hl => ?_)
  have hl : lv_has ls 2 [(0, .ref (a_th 0)), (1, .int v1_0)] := hl
  unfold f_X8_wouldAppeal at hf
  refine k_aload_n E hl 0 dX8_wouldAppeal_0 rfl ?_
  refine k_iload_n E hl 1 dX8_wouldAppeal_1 rfl ?_
  obtain ⟨cd_1, hg, hf⟩ := ob hf
  refine k_callXv (As := [.int v1_0]) (rest := []) (ws2 := fun u => wMCo k a_th (a_in 0) (a_ou 0) (a_ru 0) (a_no 0) (a_fo 0) (a_rd 0) (a_pa 0) sv_th th_0 ++ wRules k a_ru ru_0 ++ wCourt k a_no no_0) (c_X8_needFine n l k hx a_th a_in a_ou a_ru a_no a_fo a_rd a_pa sv_th th_0 no_0 v1_0 cd_1 hg) E vl_X8_239 dX8_wouldAppeal_2 rfl [0, 4, 5, 6, 7, 8, 9, 10, 11, 12, 13, 14, 15] 6 0 hW hA hl rfl rfl rfl rfl ⟨by decide, by decide⟩ ⟨by decide, by decide⟩ (Nat.le_of_ble_eq_true rfl) rfl (fun _ => rfl) (fun _ => rfl) (fun cd9 u ce9 q9 H locs hp hW hce hcv hcls => ?_) (fun u H locs hp hW => ?_)
  · obtain ⟨hcd, hp⟩ := hp
    cases hp
    have hW : WD k A s.heap (wMCo k a_th (a_in 0) (a_ou 0) (a_ru 0) (a_no 0) (a_fo 0) (a_rd 0) (a_pa 0) sv_th th_0 ++ wRules k a_ru ru_0 ++ wCourt k a_no no_0) H locs := hW
    have hf := oF hcd hf
    exact hout _ () _ _ _ _ _ _ _ _ _ ⟨hcd, (Option.some.inj hf).symm⟩ hW hce hcv hcls (by decide) (by decide)
  cases hp
  have hW : WD k A s.heap (wMCo k a_th (a_in 0) (a_ou 0) (a_ru 0) (a_no 0) (a_fo 0) (a_rd 0) (a_pa 0) sv_th th_0 ++ wRules k a_ru ru_0 ++ wCourt k a_no no_0) H locs := hW
  have hf := oT rfl hf
  refine k_aload_n E hl 0 dX8_wouldAppeal_5 rfl ?_
  refine gf_X8_31 E hW 0 rfl rfl dX8_wouldAppeal_6 ?_
  refine k_iload_n E hl 1 dX8_wouldAppeal_9 rfl ?_
  refine k_aload_n E hl 0 dX8_wouldAppeal_10 rfl ?_
  refine gf_X8_24 E hW 0 rfl rfl dX8_wouldAppeal_11 ?_
  refine gf_X8_126 E hW 1 rfl rfl dX8_wouldAppeal_14 ?_
  obtain ⟨r_2, hg, hf⟩ := ob hf
  refine k_callVi (As := [.int v1_0, .int (ru_0.1 6)]) (rest := []) (ws2 := fun u => wMCo k a_th (a_in 0) (a_ou 0) (a_ru 0) (a_no 0) (a_fo 0) (a_rd 0) (a_pa 0) sv_th th_0 ++ wRules k a_ru ru_0 ++ wCourt k a_no no_0) (c_X2_isAppealable n l k a_no no_0 v1_0 (ru_0.1 6) r_2 hg) E vl_X8_323 dX8_wouldAppeal_17 rfl [4, 5, 6, 7, 8, 9, 10, 11, 12, 13, 14, 15] 1 4 hW hA hl rfl rfl rfl rfl ⟨by decide, by decide⟩ ⟨by decide, by decide⟩ (Nat.le_of_ble_eq_true rfl) rfl (fun _ => rfl) (fun _ => rfl) (fun r u H locs hp hW => ?_)
  cases hp
  have hW : WD k A s.heap (wMCo k a_th (a_in 0) (a_ou 0) (a_ru 0) (a_no 0) (a_fo 0) (a_rd 0) (a_pa 0) sv_th th_0 ++ wRules k a_ru ru_0 ++ wCourt k a_no no_0) H locs := hW
  refine lv_if_ne (tgt := 25) E.hx E.hb dX8_wouldAppeal_20 (by decide) (fun hc => ?_) (fun hc => ?_)
  · have hf := oF hc hf
    refine k_aload_n E hl 0 dX8_wouldAppeal_25 rfl ?_
    refine gf_X8_31 E hW 0 rfl rfl dX8_wouldAppeal_26 ?_
    refine k_iload_n E hl 1 dX8_wouldAppeal_29 rfl ?_
    refine k_aload_n E hl 0 dX8_wouldAppeal_30 rfl ?_
    refine gf_X8_31 E hW 0 rfl rfl dX8_wouldAppeal_31 ?_
    refine k_iload_n E hl 1 dX8_wouldAppeal_34 rfl ?_
    obtain ⟨r_3, hg, hf⟩ := ob hf
    refine k_callVi (As := [.int v1_0]) (rest := [.int v1_0, .ref (a_no 0)]) (ws2 := fun u => wMCo k a_th (a_in 0) (a_ou 0) (a_ru 0) (a_no 0) (a_fo 0) (a_rd 0) (a_pa 0) sv_th th_0 ++ wRules k a_ru ru_0 ++ wCourt k a_no no_0) (c_X2_evidenceFor n l k a_no no_0 v1_0 r_3 hg) E vl_X8_245 dX8_wouldAppeal_35 rfl [4, 5, 6, 7, 8, 9, 10, 11, 12, 13, 14, 15] 1 4 hW hA hl rfl rfl rfl rfl ⟨by decide, by decide⟩ ⟨by decide, by decide⟩ (Nat.le_of_ble_eq_true rfl) rfl (fun _ => rfl) (fun _ => rfl) (fun r u H locs hp hW => ?_)
    cases hp
    have hW : WD k A s.heap (wMCo k a_th (a_in 0) (a_ou 0) (a_ru 0) (a_no 0) (a_fo 0) (a_rd 0) (a_pa 0) sv_th th_0 ++ wRules k a_ru ru_0 ++ wCourt k a_no no_0) H locs := hW
    obtain ⟨r_4, hg, hf⟩ := ob hf
    refine k_callVi (As := [.int v1_0, .int r_3]) (rest := []) (ws2 := fun u => wMCo k a_th (a_in 0) (a_ou 0) (a_ru 0) (a_no 0) (a_fo 0) (a_rd 0) (a_pa 0) sv_th th_0 ++ wRules k a_ru ru_0 ++ wCourt k a_no no_0) (c_X2_lessBy n l k a_no no_0 v1_0 r_3 r_4 hg) E vl_X8_358 dX8_wouldAppeal_38 rfl [4, 5, 6, 7, 8, 9, 10, 11, 12, 13, 14, 15] 1 4 hW hA hl rfl rfl rfl rfl ⟨by decide, by decide⟩ ⟨by decide, by decide⟩ (Nat.le_of_ble_eq_true rfl) rfl (fun _ => rfl) (fun _ => rfl) (fun r u H locs hp hW => ?_)
    cases hp
    have hW : WD k A s.heap (wMCo k a_th (a_in 0) (a_ou 0) (a_ru 0) (a_no 0) (a_fo 0) (a_rd 0) (a_pa 0) sv_th th_0 ++ wRules k a_ru ru_0 ++ wCourt k a_no no_0) H locs := hW
    exact hret _ () _ _ _ _ _ _ hW (Option.some.inj hf).symm rfl (by decide) (by decide) dX8_wouldAppeal_41
  · have hf := oT hc hf
    refine lv_iconst (v := (-1 : Int32)) E.hx E.hb dX8_wouldAppeal_23 ic_m1 ?_
    exact hret _ () _ _ _ _ _ _ hW (Option.some.inj hf).symm rfl (by decide) (by decide) dX8_wouldAppeal_24
def f_X8_printProcess (n : Nat) (sv_th : Value) (th_0 : OS) (z_ou : Nat) (ou_0 : OS) (ru_0 : OS) (no_0 : OS) (v1_0 : Int32) : Option (OS × Int32 × Nat) :=
  bnd (f_X8_needProcess n sv_th th_0 ru_0 v1_0) (fun (cd_1 : Nat) =>
  if cd_1 = 0 then (
  Let (sI ou_0 1 (0 : Int32)) (fun ou_2 : OS =>
  bnd (f_X5_printName n ru_0 z_ou ou_2 v1_0) (fun (ou_3 : OS) =>
  bnd (f_X1_put n z_ou ou_3 (32 : Int32)) (fun (ou_4 : OS) =>
  bnd (f_X6_get n (5 : Int32) 40 (no_0.2.1 11) v1_0 (0 : Int32)) (fun (r_5 : Int32) =>
  bnd (f_X1_putNumber n z_ou ou_4 r_5) (fun (ou_6 : OS) =>
  bnd (f_X1_put n z_ou ou_6 (32 : Int32)) (fun (ou_7 : OS) =>
  bnd (f_X6_get n (5 : Int32) 40 (no_0.2.1 11) v1_0 (1 : Int32)) (fun (r_8 : Int32) =>
  bnd (f_X1_putNumber n z_ou ou_7 r_8) (fun (ou_9 : OS) =>
  bnd (f_X2_printLoans n no_0 z_ou ou_9 v1_0) (fun (ou_10 : OS) =>
  some (ou_10, (ou_10.1 1), 0))))))))))) else (
  some (ou_0, (0 : Int32), cd_1)))
set_option maxHeartbeats 4000000 in
set_option maxRecDepth 100000 in
theorem c_X8_printProcess (n : Nat) (l : Launch) (k : KT) (hx : XH l k) (a_th : Nat → Nat) (a_in : Nat → Nat) (a_ou : Nat → Nat) (a_ru : Nat → Nat) (a_no : Nat → Nat) (a_fo : Nat → Nat) (a_rd : Nat → Nat) (a_pa : Nat → Nat) (sv_th : Value) (th_0 : OS) (z_ou : Nat) (ou_0 : OS) (ru_0 : OS) (no_0 : OS) (v1_0 : Int32) (res : (OS × Int32 × Nat)) (hf : f_X8_printProcess n sv_th th_0 z_ou ou_0 ru_0 no_0 v1_0 = some res) : CX l k yX8_printProcess cX8_printProcess 2 (some .int) 7 1 6 103 [.ref (a_th 0), .int v1_0] (wMCo k a_th (a_in 0) (a_ou 0) (a_ru 0) (a_no 0) (a_fo 0) (a_rd 0) (a_pa 0) sv_th th_0 ++ wBytes k a_ou z_ou ou_0 ++ wRules k a_ru ru_0 ++ wCourt k a_no no_0) (Qi k (fun u : OS => wMCo k a_th (a_in 0) (a_ou 0) (a_ru 0) (a_no 0) (a_fo 0) (a_rd 0) (a_pa 0) sv_th th_0 ++ wBytes k a_ou z_ou u ++ wRules k a_ru ru_0 ++ wCourt k a_no no_0) (fun (r : Int32) (u : OS) => res = (u, r, 0))) (Xq k (fun u : OS => wMCo k a_th (a_in 0) (a_ou 0) (a_ru 0) (a_no 0) (a_fo 0) (a_rd 0) (a_pa 0) sv_th th_0 ++ wBytes k a_ou z_ou u ++ wRules k a_ru ru_0 ++ wCourt k a_no no_0) (fun (cd : Nat) (u : OS) => cd ≠ 0 ∧ res = (u, (0 : Int32), cd))) := by
  refine CX.ofI hx rfl (by decide) (Nat.le_of_ble_eq_true rfl) (by decide) (by decide) (fun p e s m args below meth c A Q E hnm hW hA hret hout hthr ls hl => ?_)
  have hl : lv_has ls 2 [(0, .ref (a_th 0)), (1, .int v1_0)] := hl
  unfold f_X8_printProcess at hf
  refine k_aload_n E hl 0 dX8_printProcess_0 rfl ?_
  refine k_iload_n E hl 1 dX8_printProcess_1 rfl ?_
  obtain ⟨cd_1, hg, hf⟩ := ob hf
  refine k_callXv (As := [.int v1_0]) (rest := []) (ws2 := fun u => wMCo k a_th (a_in 0) (a_ou 0) (a_ru 0) (a_no 0) (a_fo 0) (a_rd 0) (a_pa 0) sv_th th_0 ++ wBytes k a_ou z_ou ou_0 ++ wRules k a_ru ru_0 ++ wCourt k a_no no_0) (c_X8_needProcess n l k hx a_th a_in a_ou a_ru a_no a_fo a_rd a_pa sv_th th_0 ru_0 v1_0 cd_1 hg) E vl_X8_165 dX8_printProcess_2 rfl [0, 3, 4, 5] 6 0 hW hA hl rfl rfl rfl rfl ⟨by decide, by decide⟩ ⟨by decide, by decide⟩ (Nat.le_of_ble_eq_true rfl) rfl (fun _ => rfl) (fun _ => rfl) (fun cd9 u ce9 q9 H locs hp hW hce hcv hcls => ?_) (fun u H locs hp hW => ?_)
  · obtain ⟨hcd, hp⟩ := hp
    cases hp
    have hW : WD k A s.heap (wMCo k a_th (a_in 0) (a_ou 0) (a_ru 0) (a_no 0) (a_fo 0) (a_rd 0) (a_pa 0) sv_th th_0 ++ wBytes k a_ou z_ou ou_0 ++ wRules k a_ru ru_0 ++ wCourt k a_no no_0) H locs := hW
    have hf := oF hcd hf
    exact hout _ ou_0 _ _ _ _ _ _ _ _ _ ⟨hcd, (Option.some.inj hf).symm⟩ hW hce hcv hcls (by decide) (by decide)
  cases hp
  have hW : WD k A s.heap (wMCo k a_th (a_in 0) (a_ou 0) (a_ru 0) (a_no 0) (a_fo 0) (a_rd 0) (a_pa 0) sv_th th_0 ++ wBytes k a_ou z_ou ou_0 ++ wRules k a_ru ru_0 ++ wCourt k a_no no_0) H locs := hW
  have hf := oT rfl hf
  refine k_aload_n E hl 0 dX8_printProcess_5 rfl ?_
  refine gf_X8_18 E hW 0 rfl rfl dX8_printProcess_6 ?_
  refine lv_iconst (v := (0 : Int32)) E.hx E.hb dX8_printProcess_9 ic_0 ?_
  obtain ⟨ou_2, eou_2, hf⟩ := oL hf
  refine pf_X8_75 (ws2 := wMCo k a_th (a_in 0) (a_ou 0) (a_ru 0) (a_no 0) (a_fo 0) (a_rd 0) (a_pa 0) sv_th th_0 ++ wBytes k a_ou z_ou ou_2 ++ wRules k a_ru ru_0 ++ wCourt k a_no no_0) E hW 1 rfl rfl rfl (Nat.le_of_ble_eq_true rfl) dX8_printProcess_10 (by rw [eou_2]; rfl) (fun H locs hW => ?_)
  refine k_aload_n E hl 0 dX8_printProcess_13 rfl ?_
  refine gf_X8_24 E hW 0 rfl rfl dX8_printProcess_14 ?_
  refine k_iload_n E hl 1 dX8_printProcess_17 rfl ?_
  refine k_aload_n E hl 0 dX8_printProcess_18 rfl ?_
  refine gf_X8_18 E hW 0 rfl rfl dX8_printProcess_19 ?_
  obtain ⟨ou_3, hg, hf⟩ := ob hf
  refine k_callVv (As := [.int v1_0, .ref (a_ou 0)]) (rest := []) (ws2 := fun u => wMCo k a_th (a_in 0) (a_ou 0) (a_ru 0) (a_no 0) (a_fo 0) (a_rd 0) (a_pa 0) sv_th th_0 ++ wBytes k a_ou z_ou (u) ++ wRules k a_ru ru_0 ++ wCourt k a_no no_0) (c_X5_printName n l k a_ru a_ou ru_0 z_ou ou_2 v1_0 ou_3 hg) E vl_X8_361 dX8_printProcess_22 rfl [3, 4, 5, 1, 2] 4 3 hW hA hl rfl rfl rfl rfl ⟨by decide, by decide⟩ ⟨by decide, by decide⟩ (Nat.le_of_ble_eq_true rfl) rfl (fun _ => rfl) (fun _ => rfl) (fun u H locs hp hW => ?_)
  cases hp
  have hW : WD k A s.heap (wMCo k a_th (a_in 0) (a_ou 0) (a_ru 0) (a_no 0) (a_fo 0) (a_rd 0) (a_pa 0) sv_th th_0 ++ wBytes k a_ou z_ou ou_3 ++ wRules k a_ru ru_0 ++ wCourt k a_no no_0) H locs := hW
  refine k_aload_n E hl 0 dX8_printProcess_25 rfl ?_
  refine gf_X8_18 E hW 0 rfl rfl dX8_printProcess_26 ?_
  refine lv_bipush (v := (32 : Int32)) E.hx E.hb dX8_printProcess_29 bp_32 ?_
  obtain ⟨ou_4, hg, hf⟩ := ob hf
  refine k_callVv (As := [.int (32 : Int32)]) (rest := []) (ws2 := fun u => wMCo k a_th (a_in 0) (a_ou 0) (a_ru 0) (a_no 0) (a_fo 0) (a_rd 0) (a_pa 0) sv_th th_0 ++ wBytes k a_ou z_ou (u) ++ wRules k a_ru ru_0 ++ wCourt k a_no no_0) (c_X1_put n l k a_ou z_ou ou_3 (32 : Int32) ou_4 hg) E vl_X8_365 dX8_printProcess_31 rfl [1, 2] 0 1 hW hA hl rfl rfl rfl rfl ⟨by decide, by decide⟩ ⟨by decide, by decide⟩ (Nat.le_of_ble_eq_true rfl) rfl (fun _ => rfl) (fun _ => rfl) (fun u H locs hp hW => ?_)
  cases hp
  have hW : WD k A s.heap (wMCo k a_th (a_in 0) (a_ou 0) (a_ru 0) (a_no 0) (a_fo 0) (a_rd 0) (a_pa 0) sv_th th_0 ++ wBytes k a_ou z_ou ou_4 ++ wRules k a_ru ru_0 ++ wCourt k a_no no_0) H locs := hW
  refine k_aload_n E hl 0 dX8_printProcess_34 rfl ?_
  refine gf_X8_18 E hW 0 rfl rfl dX8_printProcess_35 ?_
  refine k_aload_n E hl 0 dX8_printProcess_38 rfl ?_
  refine gf_X8_31 E hW 0 rfl rfl dX8_printProcess_39 ?_
  refine gf_X8_168 E hW 6 rfl rfl dX8_printProcess_42 ?_
  refine k_iload_n E hl 1 dX8_printProcess_45 rfl ?_
  refine lv_iconst (v := (0 : Int32)) E.hx E.hb dX8_printProcess_46 ic_0 ?_
  obtain ⟨r_5, hg, hf⟩ := ob hf
  refine k_callVi (As := [.int v1_0, .int (0 : Int32)]) (rest := [.ref (a_ou 0)]) (ws2 := fun u => wMCo k a_th (a_in 0) (a_ou 0) (a_ru 0) (a_no 0) (a_fo 0) (a_rd 0) (a_pa 0) sv_th th_0 ++ wBytes k a_ou z_ou ou_4 ++ wRules k a_ru ru_0 ++ wCourt k a_no no_0) (c_X6_get n l k (fun j => a_no (3 + j)) (5 : Int32) 40 (no_0.2.1 11) v1_0 (0 : Int32) r_5 hg) E vl_X8_171 dX8_printProcess_47 rfl [9, 10] 5 9 hW hA hl rfl rfl rfl rfl ⟨by decide, by decide⟩ ⟨by decide, by decide⟩ (Nat.le_of_ble_eq_true rfl) rfl (fun _ => rfl) (fun _ => rfl) (fun r u H locs hp hW => ?_)
  cases hp
  have hW : WD k A s.heap (wMCo k a_th (a_in 0) (a_ou 0) (a_ru 0) (a_no 0) (a_fo 0) (a_rd 0) (a_pa 0) sv_th th_0 ++ wBytes k a_ou z_ou ou_4 ++ wRules k a_ru ru_0 ++ wCourt k a_no no_0) H locs := hW
  obtain ⟨ou_6, hg, hf⟩ := ob hf
  refine k_callVv (As := [.int r_5]) (rest := []) (ws2 := fun u => wMCo k a_th (a_in 0) (a_ou 0) (a_ru 0) (a_no 0) (a_fo 0) (a_rd 0) (a_pa 0) sv_th th_0 ++ wBytes k a_ou z_ou (u) ++ wRules k a_ru ru_0 ++ wCourt k a_no no_0) (c_X1_putNumber n l k a_ou z_ou ou_4 r_5 ou_6 hg) E vl_X8_368 dX8_printProcess_50 rfl [1, 2] 0 1 hW hA hl rfl rfl rfl rfl ⟨by decide, by decide⟩ ⟨by decide, by decide⟩ (Nat.le_of_ble_eq_true rfl) rfl (fun _ => rfl) (fun _ => rfl) (fun u H locs hp hW => ?_)
  cases hp
  have hW : WD k A s.heap (wMCo k a_th (a_in 0) (a_ou 0) (a_ru 0) (a_no 0) (a_fo 0) (a_rd 0) (a_pa 0) sv_th th_0 ++ wBytes k a_ou z_ou ou_6 ++ wRules k a_ru ru_0 ++ wCourt k a_no no_0) H locs := hW
  refine k_aload_n E hl 0 dX8_printProcess_53 rfl ?_
  refine gf_X8_18 E hW 0 rfl rfl dX8_printProcess_54 ?_
  refine lv_bipush (v := (32 : Int32)) E.hx E.hb dX8_printProcess_57 bp_32 ?_
  obtain ⟨ou_7, hg, hf⟩ := ob hf
  refine k_callVv (As := [.int (32 : Int32)]) (rest := []) (ws2 := fun u => wMCo k a_th (a_in 0) (a_ou 0) (a_ru 0) (a_no 0) (a_fo 0) (a_rd 0) (a_pa 0) sv_th th_0 ++ wBytes k a_ou z_ou (u) ++ wRules k a_ru ru_0 ++ wCourt k a_no no_0) (c_X1_put n l k a_ou z_ou ou_6 (32 : Int32) ou_7 hg) E vl_X8_365 dX8_printProcess_59 rfl [1, 2] 0 1 hW hA hl rfl rfl rfl rfl ⟨by decide, by decide⟩ ⟨by decide, by decide⟩ (Nat.le_of_ble_eq_true rfl) rfl (fun _ => rfl) (fun _ => rfl) (fun u H locs hp hW => ?_)
  cases hp
  have hW : WD k A s.heap (wMCo k a_th (a_in 0) (a_ou 0) (a_ru 0) (a_no 0) (a_fo 0) (a_rd 0) (a_pa 0) sv_th th_0 ++ wBytes k a_ou z_ou ou_7 ++ wRules k a_ru ru_0 ++ wCourt k a_no no_0) H locs := hW
  refine k_aload_n E hl 0 dX8_printProcess_62 rfl ?_
  refine gf_X8_18 E hW 0 rfl rfl dX8_printProcess_63 ?_
  refine k_aload_n E hl 0 dX8_printProcess_66 rfl ?_
  refine gf_X8_31 E hW 0 rfl rfl dX8_printProcess_67 ?_
  refine gf_X8_168 E hW 6 rfl rfl dX8_printProcess_70 ?_
  refine k_iload_n E hl 1 dX8_printProcess_73 rfl ?_
  refine lv_iconst (v := (1 : Int32)) E.hx E.hb dX8_printProcess_74 ic_1 ?_
  obtain ⟨r_8, hg, hf⟩ := ob hf
  refine k_callVi (As := [.int v1_0, .int (1 : Int32)]) (rest := [.ref (a_ou 0)]) (ws2 := fun u => wMCo k a_th (a_in 0) (a_ou 0) (a_ru 0) (a_no 0) (a_fo 0) (a_rd 0) (a_pa 0) sv_th th_0 ++ wBytes k a_ou z_ou ou_7 ++ wRules k a_ru ru_0 ++ wCourt k a_no no_0) (c_X6_get n l k (fun j => a_no (3 + j)) (5 : Int32) 40 (no_0.2.1 11) v1_0 (1 : Int32) r_8 hg) E vl_X8_171 dX8_printProcess_75 rfl [9, 10] 5 9 hW hA hl rfl rfl rfl rfl ⟨by decide, by decide⟩ ⟨by decide, by decide⟩ (Nat.le_of_ble_eq_true rfl) rfl (fun _ => rfl) (fun _ => rfl) (fun r u H locs hp hW => ?_)
  cases hp
  have hW : WD k A s.heap (wMCo k a_th (a_in 0) (a_ou 0) (a_ru 0) (a_no 0) (a_fo 0) (a_rd 0) (a_pa 0) sv_th th_0 ++ wBytes k a_ou z_ou ou_7 ++ wRules k a_ru ru_0 ++ wCourt k a_no no_0) H locs := hW
  obtain ⟨ou_9, hg, hf⟩ := ob hf
  refine k_callVv (As := [.int r_8]) (rest := []) (ws2 := fun u => wMCo k a_th (a_in 0) (a_ou 0) (a_ru 0) (a_no 0) (a_fo 0) (a_rd 0) (a_pa 0) sv_th th_0 ++ wBytes k a_ou z_ou (u) ++ wRules k a_ru ru_0 ++ wCourt k a_no no_0) (c_X1_putNumber n l k a_ou z_ou ou_7 r_8 ou_9 hg) E vl_X8_368 dX8_printProcess_78 rfl [1, 2] 0 1 hW hA hl rfl rfl rfl rfl ⟨by decide, by decide⟩ ⟨by decide, by decide⟩ (Nat.le_of_ble_eq_true rfl) rfl (fun _ => rfl) (fun _ => rfl) (fun u H locs hp hW => ?_)
  cases hp
  have hW : WD k A s.heap (wMCo k a_th (a_in 0) (a_ou 0) (a_ru 0) (a_no 0) (a_fo 0) (a_rd 0) (a_pa 0) sv_th th_0 ++ wBytes k a_ou z_ou ou_9 ++ wRules k a_ru ru_0 ++ wCourt k a_no no_0) H locs := hW
  refine k_aload_n E hl 0 dX8_printProcess_81 rfl ?_
  refine gf_X8_31 E hW 0 rfl rfl dX8_printProcess_82 ?_
  refine k_iload_n E hl 1 dX8_printProcess_85 rfl ?_
  refine k_aload_n E hl 0 dX8_printProcess_86 rfl ?_
  refine gf_X8_18 E hW 0 rfl rfl dX8_printProcess_87 ?_
  obtain ⟨ou_10, hg, hf⟩ := ob hf
  refine k_callVv (As := [.int v1_0, .ref (a_ou 0)]) (rest := []) (ws2 := fun u => wMCo k a_th (a_in 0) (a_ou 0) (a_ru 0) (a_no 0) (a_fo 0) (a_rd 0) (a_pa 0) sv_th th_0 ++ wBytes k a_ou z_ou (u) ++ wRules k a_ru ru_0 ++ wCourt k a_no no_0) (c_X2_printLoans n l k a_no a_ou no_0 z_ou ou_9 v1_0 ou_10 hg) E vl_X8_371 dX8_printProcess_90 rfl [6, 7, 8, 9, 10, 11, 12, 13, 14, 15, 16, 17, 1, 2] 1 6 hW hA hl rfl rfl rfl rfl ⟨by decide, by decide⟩ ⟨by decide, by decide⟩ (Nat.le_of_ble_eq_true rfl) rfl (fun _ => rfl) (fun _ => rfl) (fun u H locs hp hW => ?_)
  cases hp
  have hW : WD k A s.heap (wMCo k a_th (a_in 0) (a_ou 0) (a_ru 0) (a_no 0) (a_fo 0) (a_rd 0) (a_pa 0) sv_th th_0 ++ wBytes k a_ou z_ou ou_10 ++ wRules k a_ru ru_0 ++ wCourt k a_no no_0) H locs := hW
  refine k_aload_n E hl 0 dX8_printProcess_93 rfl ?_
  refine gf_X8_18 E hW 0 rfl rfl dX8_printProcess_94 ?_
  refine gf_X8_75 E hW 1 rfl rfl dX8_printProcess_97 ?_
  exact hret _ ou_10 _ _ _ _ _ _ hW (Option.some.inj hf).symm rfl (by decide) (by decide) dX8_printProcess_100
def f_X8_outputByte (n : Nat) (sv_th : Value) (th_0 : OS) (z_ou : Nat) (ou_0 : OS) (v1_0 : Int32) : Option (Int32) :=
  bnd (f_X1_at n z_ou ou_0 v1_0) (fun (r_1 : Int32) =>
  some r_1)
set_option maxHeartbeats 4000000 in
set_option maxRecDepth 100000 in
theorem c_X8_outputByte (n : Nat) (l : Launch) (k : KT) (a_th : Nat → Nat) (a_in : Nat → Nat) (a_ou : Nat → Nat) (a_ru : Nat → Nat) (a_no : Nat → Nat) (a_fo : Nat → Nat) (a_rd : Nat → Nat) (a_pa : Nat → Nat) (sv_th : Value) (th_0 : OS) (z_ou : Nat) (ou_0 : OS) (v1_0 : Int32) (res : (Int32)) (hf : f_X8_outputByte n sv_th th_0 z_ou ou_0 v1_0 = some res) : CG l k yX8_outputByte cX8_outputByte 2 (some .int) 1 0 0 21 [.ref (a_th 0), .int v1_0] (wMCo k a_th (a_in 0) (a_ou 0) (a_ru 0) (a_no 0) (a_fo 0) (a_rd 0) (a_pa 0) sv_th th_0 ++ wBytes k a_ou z_ou ou_0) (Qi k (fun u : Unit => wMCo k a_th (a_in 0) (a_ou 0) (a_ru 0) (a_no 0) (a_fo 0) (a_rd 0) (a_pa 0) sv_th th_0 ++ wBytes k a_ou z_ou ou_0) (fun (r : Int32) (u : Unit) => res = r)) := by
  refine CG.ofI (by decide) (Nat.le_of_ble_eq_true rfl) (fun p e s m args below meth c A Q E hnm hW hA hret ls hl => ?_)
  have hl : lv_has ls 2 [(0, .ref (a_th 0)), (1, .int v1_0)] := hl
  unfold f_X8_outputByte at hf
  refine k_aload_n E hl 0 dX8_outputByte_0 rfl ?_
  refine gf_X8_18 E hW 0 rfl rfl dX8_outputByte_1 ?_
  refine k_iload_n E hl 1 dX8_outputByte_4 rfl ?_
  obtain ⟨r_1, hg, hf⟩ := ob hf
  refine k_callVi (As := [.int v1_0]) (rest := []) (ws2 := fun u => wMCo k a_th (a_in 0) (a_ou 0) (a_ru 0) (a_no 0) (a_fo 0) (a_rd 0) (a_pa 0) sv_th th_0 ++ wBytes k a_ou z_ou ou_0) (c_X1_at n l k a_ou z_ou ou_0 v1_0 r_1 hg) E vl_X8_374 dX8_outputByte_5 rfl [1, 2] 0 1 hW hA hl rfl rfl rfl rfl ⟨by decide, by decide⟩ ⟨by decide, by decide⟩ (Nat.le_of_ble_eq_true rfl) rfl (fun _ => rfl) (fun _ => rfl) (fun r u H locs hp hW => ?_)
  cases hp
  have hW : WD k A s.heap (wMCo k a_th (a_in 0) (a_ou 0) (a_ru 0) (a_no 0) (a_fo 0) (a_rd 0) (a_pa 0) sv_th th_0 ++ wBytes k a_ou z_ou ou_0) H locs := hW
  exact hret _ () _ _ _ _ _ _ hW (Option.some.inj hf).symm rfl (by decide) (by decide) dX8_outputByte_8
