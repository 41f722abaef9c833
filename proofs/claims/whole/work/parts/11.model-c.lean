theorem tm_1787 : (Jvm.Cond.methodLink "MemoryCourtModel" (304 : Nat) ({ cls := "MemoryCourtModel", name := "tries", desc := "()V" } : Jvm.MethodName)) ∈ lw_tbl := List.mem_of_getElem? (i := 1787) (by decide +kernel)
theorem tm_1789 : (Jvm.Cond.instanceMethod ({ cls := "MemoryCourtModel", name := "tries", desc := "()V" } : Jvm.MethodName)) ∈ lw_tbl := List.mem_of_getElem? (i := 1789) (by decide +kernel)
theorem tms_82 : (Jvm.Cond.selects "MemoryCourtModel" ({ cls := "MemoryCourtModel", name := "tries", desc := "()V" } : Jvm.MethodName) ({ cls := "MemoryCourtModel", name := "tries", desc := "()V" } : Jvm.MethodName)) ∈ lw_tbl := List.mem_of_getElem? (i := 82) (by decide +kernel)
theorem tm_1790 : (Jvm.Cond.code ({ cls := "MemoryCourtModel", name := "tries", desc := "()V" } : Jvm.MethodName) prog_11_method_15_code (1 : Nat) (Option.none : Option Jvm.ClassFile.FieldType)) ∈ lw_tbl := List.mem_of_getElem? (i := 1790) (by decide +kernel)
theorem tm_1791 : (Jvm.Cond.methodLink "MemoryCourtModel" (307 : Nat) ({ cls := "MemoryCourtModel", name := "laysBack", desc := "(I)I" } : Jvm.MethodName)) ∈ lw_tbl := List.mem_of_getElem? (i := 1791) (by decide +kernel)
theorem tm_1793 : (Jvm.Cond.instanceMethod ({ cls := "MemoryCourtModel", name := "laysBack", desc := "(I)I" } : Jvm.MethodName)) ∈ lw_tbl := List.mem_of_getElem? (i := 1793) (by decide +kernel)
theorem tms_83 : (Jvm.Cond.selects "MemoryCourtModel" ({ cls := "MemoryCourtModel", name := "laysBack", desc := "(I)I" } : Jvm.MethodName) ({ cls := "MemoryCourtModel", name := "laysBack", desc := "(I)I" } : Jvm.MethodName)) ∈ lw_tbl := List.mem_of_getElem? (i := 83) (by decide +kernel)
theorem tm_1794 : (Jvm.Cond.code ({ cls := "MemoryCourtModel", name := "laysBack", desc := "(I)I" } : Jvm.MethodName) prog_11_method_16_code (2 : Nat) (Option.some Jvm.ClassFile.FieldType.int)) ∈ lw_tbl := List.mem_of_getElem? (i := 1794) (by decide +kernel)
theorem tm_1783 : (Jvm.Cond.methodLink "MemoryCourtModel" (300 : Nat) ({ cls := "MemoryCourtModel", name := "becomesIn", desc := "(III)I" } : Jvm.MethodName)) ∈ lw_tbl := List.mem_of_getElem? (i := 1783) (by decide +kernel)
theorem tm_1785 : (Jvm.Cond.instanceMethod ({ cls := "MemoryCourtModel", name := "becomesIn", desc := "(III)I" } : Jvm.MethodName)) ∈ lw_tbl := List.mem_of_getElem? (i := 1785) (by decide +kernel)
theorem tms_81 : (Jvm.Cond.selects "MemoryCourtModel" ({ cls := "MemoryCourtModel", name := "becomesIn", desc := "(III)I" } : Jvm.MethodName) ({ cls := "MemoryCourtModel", name := "becomesIn", desc := "(III)I" } : Jvm.MethodName)) ∈ lw_tbl := List.mem_of_getElem? (i := 81) (by decide +kernel)
theorem tm_1786 : (Jvm.Cond.code ({ cls := "MemoryCourtModel", name := "becomesIn", desc := "(III)I" } : Jvm.MethodName) prog_11_method_92_code (6 : Nat) (Option.some Jvm.ClassFile.FieldType.int)) ∈ lw_tbl := List.mem_of_getElem? (i := 1786) (by decide +kernel)
theorem tm_1823 : (Jvm.Cond.methodLink "MemoryCourtModel" (310 : Nat) ({ cls := "MemoryCourtModel", name := "doesHelp", desc := "(III)Z" } : Jvm.MethodName)) ∈ lw_tbl := List.mem_of_getElem? (i := 1823) (by decide +kernel)
theorem tm_1825 : (Jvm.Cond.instanceMethod ({ cls := "MemoryCourtModel", name := "doesHelp", desc := "(III)Z" } : Jvm.MethodName)) ∈ lw_tbl := List.mem_of_getElem? (i := 1825) (by decide +kernel)
theorem tms_84 : (Jvm.Cond.selects "MemoryCourtModel" ({ cls := "MemoryCourtModel", name := "doesHelp", desc := "(III)Z" } : Jvm.MethodName) ({ cls := "MemoryCourtModel", name := "doesHelp", desc := "(III)Z" } : Jvm.MethodName)) ∈ lw_tbl := List.mem_of_getElem? (i := 84) (by decide +kernel)
theorem tm_1826 : (Jvm.Cond.code ({ cls := "MemoryCourtModel", name := "doesHelp", desc := "(III)Z" } : Jvm.MethodName) prog_11_method_99_code (6 : Nat) (Option.some Jvm.ClassFile.FieldType.boolean)) ∈ lw_tbl := List.mem_of_getElem? (i := 1826) (by decide +kernel)
theorem tm_1351 : (Jvm.Cond.fieldLink "MemoryCourtModel" (61 : Nat) "MemoryCourtModel" "draftPages" "I") ∈ lw_tbl := List.mem_of_getElem? (i := 1351) (by decide +kernel)
theorem tm_1352 : (Jvm.Cond.fieldLink "MemoryCourtModel" (314 : Nat) "MemoryCourtModel" "draftProcesses" "I") ∈ lw_tbl := List.mem_of_getElem? (i := 1352) (by decide +kernel)
theorem tm_1353 : (Jvm.Cond.fieldLink "MemoryCourtModel" (317 : Nat) "MemoryCourtModel" "draftOnce" "I") ∈ lw_tbl := List.mem_of_getElem? (i := 1353) (by decide +kernel)
theorem tm_1354 : (Jvm.Cond.fieldLink "MemoryCourtModel" (320 : Nat) "MemoryCourtModel" "draftFree" "I") ∈ lw_tbl := List.mem_of_getElem? (i := 1354) (by decide +kernel)
theorem tm_1355 : (Jvm.Cond.fieldLink "MemoryCourtModel" (49 : Nat) "MemoryCourtModel" "draftNumbers" "[I") ∈ lw_tbl := List.mem_of_getElem? (i := 1355) (by decide +kernel)
theorem tm_1328 : (Jvm.Cond.fieldLink "MemoryCourtModel" (17 : Nat) "MemoryCourtModel" "first" "[I") ∈ lw_tbl := List.mem_of_getElem? (i := 1328) (by decide +kernel)
theorem tm_1306 : (Jvm.Cond.constantLong "MemoryCourtModel" (323 : Nat) (538 : Int64)) ∈ lw_tbl := List.mem_of_getElem? (i := 1306) (by decide +kernel)
theorem tm_1307 : (Jvm.Cond.constantLong "MemoryCourtModel" (325 : Nat) (601 : Int64)) ∈ lw_tbl := List.mem_of_getElem? (i := 1307) (by decide +kernel)
theorem tm_1326 : (Jvm.Cond.fieldLink "MemoryCourtModel" (7 : Nat) "MemoryCourtModel" "names" "[J") ∈ lw_tbl := List.mem_of_getElem? (i := 1326) (by decide +kernel)
theorem tm_1356 : (Jvm.Cond.fieldLink "MemoryCourtModel" (52 : Nat) "MemoryCourtModel" "draftNames" "[J") ∈ lw_tbl := List.mem_of_getElem? (i := 1356) (by decide +kernel)
theorem tm_1341 : (Jvm.Cond.fieldLink "MemoryCourtModel" (327 : Nat) "MemoryCourtModel" "filled" "I") ∈ lw_tbl := List.mem_of_getElem? (i := 1341) (by decide +kernel)
theorem tm_1340 : (Jvm.Cond.fieldLink "MemoryCourtModel" (42 : Nat) "MemoryCourtModel" "buffer" "[B") ∈ lw_tbl := List.mem_of_getElem? (i := 1340) (by decide +kernel)
theorem tm_1342 : (Jvm.Cond.fieldLink "MemoryCourtModel" (330 : Nat) "MemoryCourtModel" "length" "I") ∈ lw_tbl := List.mem_of_getElem? (i := 1342) (by decide +kernel)
theorem tm_1847 : (Jvm.Cond.methodLink "MemoryCourtModel" (333 : Nat) ({ cls := "MemoryCourtModel", name := "here", desc := "(I)I" } : Jvm.MethodName)) ∈ lw_tbl := List.mem_of_getElem? (i := 1847) (by decide +kernel)
theorem tm_1849 : (Jvm.Cond.instanceMethod ({ cls := "MemoryCourtModel", name := "here", desc := "(I)I" } : Jvm.MethodName)) ∈ lw_tbl := List.mem_of_getElem? (i := 1849) (by decide +kernel)
theorem tms_86 : (Jvm.Cond.selects "MemoryCourtModel" ({ cls := "MemoryCourtModel", name := "here", desc := "(I)I" } : Jvm.MethodName) ({ cls := "MemoryCourtModel", name := "here", desc := "(I)I" } : Jvm.MethodName)) ∈ lw_tbl := List.mem_of_getElem? (i := 86) (by decide +kernel)
theorem tm_1850 : (Jvm.Cond.code ({ cls := "MemoryCourtModel", name := "here", desc := "(I)I" } : Jvm.MethodName) prog_11_method_106_code (2 : Nat) (Option.some Jvm.ClassFile.FieldType.int)) ∈ lw_tbl := List.mem_of_getElem? (i := 1850) (by decide +kernel)
theorem tm_1855 : (Jvm.Cond.constantLong "MemoryCourtModel" (336 : Nat) (97 : Int64)) ∈ lw_tbl := List.mem_of_getElem? (i := 1855) (by decide +kernel)
theorem tm_1856 : (Jvm.Cond.constantLong "MemoryCourtModel" (338 : Nat) (122 : Int64)) ∈ lw_tbl := List.mem_of_getElem? (i := 1856) (by decide +kernel)
theorem tm_1349 : (Jvm.Cond.fieldLink "MemoryCourtModel" (383 : Nat) "MemoryCourtModel" "code" "I") ∈ lw_tbl := List.mem_of_getElem? (i := 1349) (by decide +kernel)
theorem tm_1350 : (Jvm.Cond.fieldLink "MemoryCourtModel" (46 : Nat) "MemoryCourtModel" "offset" "I") ∈ lw_tbl := List.mem_of_getElem? (i := 1350) (by decide +kernel)
theorem tm_1358 : (Jvm.Cond.fieldLink "MemoryCourtModel" (438 : Nat) "MemoryCourtModel" "written" "I") ∈ lw_tbl := List.mem_of_getElem? (i := 1358) (by decide +kernel)
theorem tm_1357 : (Jvm.Cond.fieldLink "MemoryCourtModel" (55 : Nat) "MemoryCourtModel" "output" "[B") ∈ lw_tbl := List.mem_of_getElem? (i := 1357) (by decide +kernel)
theorem tm_1900 : (Jvm.Cond.methodLink "MemoryCourtModel" (403 : Nat) ({ cls := "MemoryCourtModel", name := "indexOf", desc := "([JIJ)I" } : Jvm.MethodName)) ∈ lw_tbl := List.mem_of_getElem? (i := 1900) (by decide +kernel)
theorem tm_1901 : (Jvm.Cond.static ({ cls := "MemoryCourtModel", name := "indexOf", desc := "([JIJ)I" } : Jvm.MethodName)) ∈ lw_tbl := List.mem_of_getElem? (i := 1901) (by decide +kernel)
theorem tm_1902 : (Jvm.Cond.code ({ cls := "MemoryCourtModel", name := "indexOf", desc := "([JIJ)I" } : Jvm.MethodName) prog_11_method_116_code (5 : Nat) (Option.some Jvm.ClassFile.FieldType.int)) ∈ lw_tbl := List.mem_of_getElem? (i := 1902) (by decide +kernel)
theorem tm_1857 : (Jvm.Cond.constantLong "MemoryCourtModel" (356 : Nat) (32 : Int64)) ∈ lw_tbl := List.mem_of_getElem? (i := 1857) (by decide +kernel)
theorem tm_1858 : (Jvm.Cond.constantLong "MemoryCourtModel" (358 : Nat) (96 : Int64)) ∈ lw_tbl := List.mem_of_getElem? (i := 1858) (by decide +kernel)
theorem tm_1344 : (Jvm.Cond.fieldLink "MemoryCourtModel" (343 : Nat) "MemoryCourtModel" "from" "I") ∈ lw_tbl := List.mem_of_getElem? (i := 1344) (by decide +kernel)
theorem tm_1345 : (Jvm.Cond.fieldLink "MemoryCourtModel" (346 : Nat) "MemoryCourtModel" "token" "I") ∈ lw_tbl := List.mem_of_getElem? (i := 1345) (by decide +kernel)
theorem tm_1346 : (Jvm.Cond.fieldLink "MemoryCourtModel" (363 : Nat) "MemoryCourtModel" "word" "I") ∈ lw_tbl := List.mem_of_getElem? (i := 1346) (by decide +kernel)
theorem tm_1343 : (Jvm.Cond.fieldLink "MemoryCourtModel" (340 : Nat) "MemoryCourtModel" "place" "I") ∈ lw_tbl := List.mem_of_getElem? (i := 1343) (by decide +kernel)
theorem tm_1872 : (Jvm.Cond.methodLink "MemoryCourtModel" (386 : Nat) ({ cls := "MemoryCourtModel", name := "fine", desc := "()Z" } : Jvm.MethodName)) ∈ lw_tbl := List.mem_of_getElem? (i := 1872) (by decide +kernel)
theorem tm_1874 : (Jvm.Cond.instanceMethod ({ cls := "MemoryCourtModel", name := "fine", desc := "()Z" } : Jvm.MethodName)) ∈ lw_tbl := List.mem_of_getElem? (i := 1874) (by decide +kernel)
theorem tms_90 : (Jvm.Cond.selects "MemoryCourtModel" ({ cls := "MemoryCourtModel", name := "fine", desc := "()Z" } : Jvm.MethodName) ({ cls := "MemoryCourtModel", name := "fine", desc := "()Z" } : Jvm.MethodName)) ∈ lw_tbl := List.mem_of_getElem? (i := 90) (by decide +kernel)
theorem tm_1875 : (Jvm.Cond.code ({ cls := "MemoryCourtModel", name := "fine", desc := "()Z" } : Jvm.MethodName) prog_11_method_110_code (1 : Nat) (Option.some Jvm.ClassFile.FieldType.boolean)) ∈ lw_tbl := List.mem_of_getElem? (i := 1875) (by decide +kernel)
theorem bp_20 : (Int8.ofInt (20)).toInt32 = (20 : Int32) := by decide
theorem sp_600 : (Int16.ofInt (600)).toInt32 = (600 : Int32) := by decide
theorem bp_12 : (Int8.ofInt (12)).toInt32 = (12 : Int32) := by decide
theorem pf_X9_36 {p : Program} {l : Launch} {e : Env} {R : Room} {s : State} {m : MethodId} {args : Array Value} {below : List Frame} {meth : Method} {c : Code} {H : Heap} {locs : List Loc} {cells slots : Nat} {Q : State → Prop} {cc : ByteArray} {pc nL : Nat} {ls : Array Slot} {rest : List Value} {k : KT} {A : Nat → Prop} {ws ws2 : va_W} {H0 : Heap} {a : Nat} (E : E0 p s m c cc nL RX9 k A) (hW : WD k A H0 ws H locs) (q0 : Nat) {fs : List Value} (he : ws[q0]? = some (a, .inr (7, fs))) {v : Value} (hn : narrow (tyX9 19) v = v) (hfit : fits (tyX9 19) v = true) (hl : 19 < fs.length) (hdg : decode cc pc = .ok (.putfield 36, 3)) (hws : ws.set q0 (a, .inr (7, fs.set 19 v)) = ws2) (q : ∀ (H1 : Heap) (locs1 : List Loc), WD k A H0 ws2 H1 locs1 → W p l e R s m args below meth c H1 locs1 cells slots Q (F0 m (pc + 3) ls rest)) : W p l e R s m args below meth c H locs cells slots Q (F0 m pc ls (v :: .ref a :: rest)) := by
  subst hws
  exact va_put (C := RX9) (T := TX9) (N := 41) (ci := 7) (ty := tyX9 19) E.hx E.hb (Ts := wsX90) (fun w hw => E.w (inX9 w hw) (tbl_laysX9 w hw)) (fun _ h => h) tyX9 tyX9_ok nmX9 E.ho E.hK hW.1 hW.2.1 hW.2.2 q0 he rfl 19 (by decide) (E.w tm_1337 rfl) (fun _ h => h) rfl (tyX9_ok 19 (by decide)) hn hfit hl hdg (fun H1 locs1 h1 h2 h3 => q H1 locs1 ⟨h1, h2, h3⟩)
theorem pf_X9_32 {p : Program} {l : Launch} {e : Env} {R : Room} {s : State} {m : MethodId} {args : Array Value} {below : List Frame} {meth : Method} {c : Code} {H : Heap} {locs : List Loc} {cells slots : Nat} {Q : State → Prop} {cc : ByteArray} {pc nL : Nat} {ls : Array Slot} {rest : List Value} {k : KT} {A : Nat → Prop} {ws ws2 : va_W} {H0 : Heap} {a : Nat} (E : E0 p s m c cc nL RX9 k A) (hW : WD k A H0 ws H locs) (q0 : Nat) {fs : List Value} (he : ws[q0]? = some (a, .inr (7, fs))) {v : Value} (hn : narrow (tyX9 17) v = v) (hfit : fits (tyX9 17) v = true) (hl : 17 < fs.length) (hdg : decode cc pc = .ok (.putfield 32, 3)) (hws : ws.set q0 (a, .inr (7, fs.set 17 v)) = ws2) (q : ∀ (H1 : Heap) (locs1 : List Loc), WD k A H0 ws2 H1 locs1 → W p l e R s m args below meth c H1 locs1 cells slots Q (F0 m (pc + 3) ls rest)) : W p l e R s m args below meth c H locs cells slots Q (F0 m pc ls (v :: .ref a :: rest)) := by
  subst hws
  exact va_put (C := RX9) (T := TX9) (N := 41) (ci := 7) (ty := tyX9 17) E.hx E.hb (Ts := wsX90) (fun w hw => E.w (inX9 w hw) (tbl_laysX9 w hw)) (fun _ h => h) tyX9 tyX9_ok nmX9 E.ho E.hK hW.1 hW.2.1 hW.2.2 q0 he rfl 17 (by decide) (E.w tm_1335 rfl) (fun _ h => h) rfl (tyX9_ok 17 (by decide)) hn hfit hl hdg (fun H1 locs1 h1 h2 h3 => q H1 locs1 ⟨h1, h2, h3⟩)
theorem gf_X9_133 {p : Program} {l : Launch} {e : Env} {R : Room} {s : State} {m : MethodId} {args : Array Value} {below : List Frame} {meth : Method} {c : Code} {H : Heap} {locs : List Loc} {cells slots : Nat} {Q : State → Prop} {cc : ByteArray} {pc nL : Nat} {ls : Array Slot} {rest : List Value} {k : KT} {A : Nat → Prop} {ws : va_W} {H0 : Heap} {a : Nat} (E : E0 p s m c cc nL RX9 k A) (hW : WD k A H0 ws H locs) (q0 : Nat) {fs : List Value} (he : ws[q0]? = some (a, .inr (7, fs))) {v : Value} (hv : fs[18]? = some v) (hdg : decode cc pc = .ok (.getfield 133, 3)) (q : W p l e R s m args below meth c H locs cells slots Q (F0 m (pc + 3) ls (v :: rest))) : W p l e R s m args below meth c H locs cells slots Q (F0 m pc ls (.ref a :: rest)) := va_get (C := RX9) (T := TX9) (N := 41) (ci := 7) E.hx E.hb (Ts := wsX90) (fun w hw => E.w (inX9 w hw) (tbl_laysX9 w hw)) (fun _ h => h) E.ho E.hK hW.1 q0 he rfl 18 (by decide) (E.w tm_1336 rfl) (fun _ h => h) hv hdg q
theorem pf_X9_61 {p : Program} {l : Launch} {e : Env} {R : Room} {s : State} {m : MethodId} {args : Array Value} {below : List Frame} {meth : Method} {c : Code} {H : Heap} {locs : List Loc} {cells slots : Nat} {Q : State → Prop} {cc : ByteArray} {pc nL : Nat} {ls : Array Slot} {rest : List Value} {k : KT} {A : Nat → Prop} {ws ws2 : va_W} {H0 : Heap} {a : Nat} (E : E0 p s m c cc nL RX9 k A) (hW : WD k A H0 ws H locs) (q0 : Nat) {fs : List Value} (he : ws[q0]? = some (a, .inr (7, fs))) {v : Value} (hn : narrow (tyX9 33) v = v) (hfit : fits (tyX9 33) v = true) (hl : 33 < fs.length) (hdg : decode cc pc = .ok (.putfield 61, 3)) (hws : ws.set q0 (a, .inr (7, fs.set 33 v)) = ws2) (q : ∀ (H1 : Heap) (locs1 : List Loc), WD k A H0 ws2 H1 locs1 → W p l e R s m args below meth c H1 locs1 cells slots Q (F0 m (pc + 3) ls rest)) : W p l e R s m args below meth c H locs cells slots Q (F0 m pc ls (v :: .ref a :: rest)) := by
  subst hws
  exact va_put (C := RX9) (T := TX9) (N := 41) (ci := 7) (ty := tyX9 33) E.hx E.hb (Ts := wsX90) (fun w hw => E.w (inX9 w hw) (tbl_laysX9 w hw)) (fun _ h => h) tyX9 tyX9_ok nmX9 E.ho E.hK hW.1 hW.2.1 hW.2.2 q0 he rfl 33 (by decide) (E.w tm_1351 rfl) (fun _ h => h) rfl (tyX9_ok 33 (by decide)) hn hfit hl hdg (fun H1 locs1 h1 h2 h3 => q H1 locs1 ⟨h1, h2, h3⟩)
theorem pf_X9_314 {p : Program} {l : Launch} {e : Env} {R : Room} {s : State} {m : MethodId} {args : Array Value} {below : List Frame} {meth : Method} {c : Code} {H : Heap} {locs : List Loc} {cells slots : Nat} {Q : State → Prop} {cc : ByteArray} {pc nL : Nat} {ls : Array Slot} {rest : List Value} {k : KT} {A : Nat → Prop} {ws ws2 : va_W} {H0 : Heap} {a : Nat} (E : E0 p s m c cc nL RX9 k A) (hW : WD k A H0 ws H locs) (q0 : Nat) {fs : List Value} (he : ws[q0]? = some (a, .inr (7, fs))) {v : Value} (hn : narrow (tyX9 34) v = v) (hfit : fits (tyX9 34) v = true) (hl : 34 < fs.length) (hdg : decode cc pc = .ok (.putfield 314, 3)) (hws : ws.set q0 (a, .inr (7, fs.set 34 v)) = ws2) (q : ∀ (H1 : Heap) (locs1 : List Loc), WD k A H0 ws2 H1 locs1 → W p l e R s m args below meth c H1 locs1 cells slots Q (F0 m (pc + 3) ls rest)) : W p l e R s m args below meth c H locs cells slots Q (F0 m pc ls (v :: .ref a :: rest)) := by
  subst hws
  exact va_put (C := RX9) (T := TX9) (N := 41) (ci := 7) (ty := tyX9 34) E.hx E.hb (Ts := wsX90) (fun w hw => E.w (inX9 w hw) (tbl_laysX9 w hw)) (fun _ h => h) tyX9 tyX9_ok nmX9 E.ho E.hK hW.1 hW.2.1 hW.2.2 q0 he rfl 34 (by decide) (E.w tm_1352 rfl) (fun _ h => h) rfl (tyX9_ok 34 (by decide)) hn hfit hl hdg (fun H1 locs1 h1 h2 h3 => q H1 locs1 ⟨h1, h2, h3⟩)
theorem pf_X9_317 {p : Program} {l : Launch} {e : Env} {R : Room} {s : State} {m : MethodId} {args : Array Value} {below : List Frame} {meth : Method} {c : Code} {H : Heap} {locs : List Loc} {cells slots : Nat} {Q : State → Prop} {cc : ByteArray} {pc nL : Nat} {ls : Array Slot} {rest : List Value} {k : KT} {A : Nat → Prop} {ws ws2 : va_W} {H0 : Heap} {a : Nat} (E : E0 p s m c cc nL RX9 k A) (hW : WD k A H0 ws H locs) (q0 : Nat) {fs : List Value} (he : ws[q0]? = some (a, .inr (7, fs))) {v : Value} (hn : narrow (tyX9 35) v = v) (hfit : fits (tyX9 35) v = true) (hl : 35 < fs.length) (hdg : decode cc pc = .ok (.putfield 317, 3)) (hws : ws.set q0 (a, .inr (7, fs.set 35 v)) = ws2) (q : ∀ (H1 : Heap) (locs1 : List Loc), WD k A H0 ws2 H1 locs1 → W p l e R s m args below meth c H1 locs1 cells slots Q (F0 m (pc + 3) ls rest)) : W p l e R s m args below meth c H locs cells slots Q (F0 m pc ls (v :: .ref a :: rest)) := by
  subst hws
  exact va_put (C := RX9) (T := TX9) (N := 41) (ci := 7) (ty := tyX9 35) E.hx E.hb (Ts := wsX90) (fun w hw => E.w (inX9 w hw) (tbl_laysX9 w hw)) (fun _ h => h) tyX9 tyX9_ok nmX9 E.ho E.hK hW.1 hW.2.1 hW.2.2 q0 he rfl 35 (by decide) (E.w tm_1353 rfl) (fun _ h => h) rfl (tyX9_ok 35 (by decide)) hn hfit hl hdg (fun H1 locs1 h1 h2 h3 => q H1 locs1 ⟨h1, h2, h3⟩)
theorem pf_X9_320 {p : Program} {l : Launch} {e : Env} {R : Room} {s : State} {m : MethodId} {args : Array Value} {below : List Frame} {meth : Method} {c : Code} {H : Heap} {locs : List Loc} {cells slots : Nat} {Q : State → Prop} {cc : ByteArray} {pc nL : Nat} {ls : Array Slot} {rest : List Value} {k : KT} {A : Nat → Prop} {ws ws2 : va_W} {H0 : Heap} {a : Nat} (E : E0 p s m c cc nL RX9 k A) (hW : WD k A H0 ws H locs) (q0 : Nat) {fs : List Value} (he : ws[q0]? = some (a, .inr (7, fs))) {v : Value} (hn : narrow (tyX9 36) v = v) (hfit : fits (tyX9 36) v = true) (hl : 36 < fs.length) (hdg : decode cc pc = .ok (.putfield 320, 3)) (hws : ws.set q0 (a, .inr (7, fs.set 36 v)) = ws2) (q : ∀ (H1 : Heap) (locs1 : List Loc), WD k A H0 ws2 H1 locs1 → W p l e R s m args below meth c H1 locs1 cells slots Q (F0 m (pc + 3) ls rest)) : W p l e R s m args below meth c H locs cells slots Q (F0 m pc ls (v :: .ref a :: rest)) := by
  subst hws
  exact va_put (C := RX9) (T := TX9) (N := 41) (ci := 7) (ty := tyX9 36) E.hx E.hb (Ts := wsX90) (fun w hw => E.w (inX9 w hw) (tbl_laysX9 w hw)) (fun _ h => h) tyX9 tyX9_ok nmX9 E.ho E.hK hW.1 hW.2.1 hW.2.2 q0 he rfl 36 (by decide) (E.w tm_1354 rfl) (fun _ h => h) rfl (tyX9_ok 36 (by decide)) hn hfit hl hdg (fun H1 locs1 h1 h2 h3 => q H1 locs1 ⟨h1, h2, h3⟩)
theorem gf_X9_49 {p : Program} {l : Launch} {e : Env} {R : Room} {s : State} {m : MethodId} {args : Array Value} {below : List Frame} {meth : Method} {c : Code} {H : Heap} {locs : List Loc} {cells slots : Nat} {Q : State → Prop} {cc : ByteArray} {pc nL : Nat} {ls : Array Slot} {rest : List Value} {k : KT} {A : Nat → Prop} {ws : va_W} {H0 : Heap} {a : Nat} (E : E0 p s m c cc nL RX9 k A) (hW : WD k A H0 ws H locs) (q0 : Nat) {fs : List Value} (he : ws[q0]? = some (a, .inr (7, fs))) {v : Value} (hv : fs[37]? = some v) (hdg : decode cc pc = .ok (.getfield 49, 3)) (q : W p l e R s m args below meth c H locs cells slots Q (F0 m (pc + 3) ls (v :: rest))) : W p l e R s m args below meth c H locs cells slots Q (F0 m pc ls (.ref a :: rest)) := va_get (C := RX9) (T := TX9) (N := 41) (ci := 7) E.hx E.hb (Ts := wsX90) (fun w hw => E.w (inX9 w hw) (tbl_laysX9 w hw)) (fun _ h => h) E.ho E.hK hW.1 q0 he rfl 37 (by decide) (E.w tm_1355 rfl) (fun _ h => h) hv hdg q
theorem gf_X9_17 {p : Program} {l : Launch} {e : Env} {R : Room} {s : State} {m : MethodId} {args : Array Value} {below : List Frame} {meth : Method} {c : Code} {H : Heap} {locs : List Loc} {cells slots : Nat} {Q : State → Prop} {cc : ByteArray} {pc nL : Nat} {ls : Array Slot} {rest : List Value} {k : KT} {A : Nat → Prop} {ws : va_W} {H0 : Heap} {a : Nat} (E : E0 p s m c cc nL RX9 k A) (hW : WD k A H0 ws H locs) (q0 : Nat) {fs : List Value} (he : ws[q0]? = some (a, .inr (7, fs))) {v : Value} (hv : fs[10]? = some v) (hdg : decode cc pc = .ok (.getfield 17, 3)) (q : W p l e R s m args below meth c H locs cells slots Q (F0 m (pc + 3) ls (v :: rest))) : W p l e R s m args below meth c H locs cells slots Q (F0 m pc ls (.ref a :: rest)) := va_get (C := RX9) (T := TX9) (N := 41) (ci := 7) E.hx E.hb (Ts := wsX90) (fun w hw => E.w (inX9 w hw) (tbl_laysX9 w hw)) (fun _ h => h) E.ho E.hK hW.1 q0 he rfl 10 (by decide) (E.w tm_1328 rfl) (fun _ h => h) hv hdg q
theorem gf_X9_61 {p : Program} {l : Launch} {e : Env} {R : Room} {s : State} {m : MethodId} {args : Array Value} {below : List Frame} {meth : Method} {c : Code} {H : Heap} {locs : List Loc} {cells slots : Nat} {Q : State → Prop} {cc : ByteArray} {pc nL : Nat} {ls : Array Slot} {rest : List Value} {k : KT} {A : Nat → Prop} {ws : va_W} {H0 : Heap} {a : Nat} (E : E0 p s m c cc nL RX9 k A) (hW : WD k A H0 ws H locs) (q0 : Nat) {fs : List Value} (he : ws[q0]? = some (a, .inr (7, fs))) {v : Value} (hv : fs[33]? = some v) (hdg : decode cc pc = .ok (.getfield 61, 3)) (q : W p l e R s m args below meth c H locs cells slots Q (F0 m (pc + 3) ls (v :: rest))) : W p l e R s m args below meth c H locs cells slots Q (F0 m pc ls (.ref a :: rest)) := va_get (C := RX9) (T := TX9) (N := 41) (ci := 7) E.hx E.hb (Ts := wsX90) (fun w hw => E.w (inX9 w hw) (tbl_laysX9 w hw)) (fun _ h => h) E.ho E.hK hW.1 q0 he rfl 33 (by decide) (E.w tm_1351 rfl) (fun _ h => h) hv hdg q
theorem pf_X9_100 {p : Program} {l : Launch} {e : Env} {R : Room} {s : State} {m : MethodId} {args : Array Value} {below : List Frame} {meth : Method} {c : Code} {H : Heap} {locs : List Loc} {cells slots : Nat} {Q : State → Prop} {cc : ByteArray} {pc nL : Nat} {ls : Array Slot} {rest : List Value} {k : KT} {A : Nat → Prop} {ws ws2 : va_W} {H0 : Heap} {a : Nat} (E : E0 p s m c cc nL RX9 k A) (hW : WD k A H0 ws H locs) (q0 : Nat) {fs : List Value} (he : ws[q0]? = some (a, .inr (7, fs))) {v : Value} (hn : narrow (tyX9 1) v = v) (hfit : fits (tyX9 1) v = true) (hl : 1 < fs.length) (hdg : decode cc pc = .ok (.putfield 100, 3)) (hws : ws.set q0 (a, .inr (7, fs.set 1 v)) = ws2) (q : ∀ (H1 : Heap) (locs1 : List Loc), WD k A H0 ws2 H1 locs1 → W p l e R s m args below meth c H1 locs1 cells slots Q (F0 m (pc + 3) ls rest)) : W p l e R s m args below meth c H locs cells slots Q (F0 m pc ls (v :: .ref a :: rest)) := by
  subst hws
  exact va_put (C := RX9) (T := TX9) (N := 41) (ci := 7) (ty := tyX9 1) E.hx E.hb (Ts := wsX90) (fun w hw => E.w (inX9 w hw) (tbl_laysX9 w hw)) (fun _ h => h) tyX9 tyX9_ok nmX9 E.ho E.hK hW.1 hW.2.1 hW.2.2 q0 he rfl 1 (by decide) (E.w tm_1319 rfl) (fun _ h => h) rfl (tyX9_ok 1 (by decide)) hn hfit hl hdg (fun H1 locs1 h1 h2 h3 => q H1 locs1 ⟨h1, h2, h3⟩)
theorem gf_X9_314 {p : Program} {l : Launch} {e : Env} {R : Room} {s : State} {m : MethodId} {args : Array Value} {below : List Frame} {meth : Method} {c : Code} {H : Heap} {locs : List Loc} {cells slots : Nat} {Q : State → Prop} {cc : ByteArray} {pc nL : Nat} {ls : Array Slot} {rest : List Value} {k : KT} {A : Nat → Prop} {ws : va_W} {H0 : Heap} {a : Nat} (E : E0 p s m c cc nL RX9 k A) (hW : WD k A H0 ws H locs) (q0 : Nat) {fs : List Value} (he : ws[q0]? = some (a, .inr (7, fs))) {v : Value} (hv : fs[34]? = some v) (hdg : decode cc pc = .ok (.getfield 314, 3)) (q : W p l e R s m args below meth c H locs cells slots Q (F0 m (pc + 3) ls (v :: rest))) : W p l e R s m args below meth c H locs cells slots Q (F0 m pc ls (.ref a :: rest)) := va_get (C := RX9) (T := TX9) (N := 41) (ci := 7) E.hx E.hb (Ts := wsX90) (fun w hw => E.w (inX9 w hw) (tbl_laysX9 w hw)) (fun _ h => h) E.ho E.hK hW.1 q0 he rfl 34 (by decide) (E.w tm_1352 rfl) (fun _ h => h) hv hdg q
theorem pf_X9_89 {p : Program} {l : Launch} {e : Env} {R : Room} {s : State} {m : MethodId} {args : Array Value} {below : List Frame} {meth : Method} {c : Code} {H : Heap} {locs : List Loc} {cells slots : Nat} {Q : State → Prop} {cc : ByteArray} {pc nL : Nat} {ls : Array Slot} {rest : List Value} {k : KT} {A : Nat → Prop} {ws ws2 : va_W} {H0 : Heap} {a : Nat} (E : E0 p s m c cc nL RX9 k A) (hW : WD k A H0 ws H locs) (q0 : Nat) {fs : List Value} (he : ws[q0]? = some (a, .inr (7, fs))) {v : Value} (hn : narrow (tyX9 2) v = v) (hfit : fits (tyX9 2) v = true) (hl : 2 < fs.length) (hdg : decode cc pc = .ok (.putfield 89, 3)) (hws : ws.set q0 (a, .inr (7, fs.set 2 v)) = ws2) (q : ∀ (H1 : Heap) (locs1 : List Loc), WD k A H0 ws2 H1 locs1 → W p l e R s m args below meth c H1 locs1 cells slots Q (F0 m (pc + 3) ls rest)) : W p l e R s m args below meth c H locs cells slots Q (F0 m pc ls (v :: .ref a :: rest)) := by
  subst hws
  exact va_put (C := RX9) (T := TX9) (N := 41) (ci := 7) (ty := tyX9 2) E.hx E.hb (Ts := wsX90) (fun w hw => E.w (inX9 w hw) (tbl_laysX9 w hw)) (fun _ h => h) tyX9 tyX9_ok nmX9 E.ho E.hK hW.1 hW.2.1 hW.2.2 q0 he rfl 2 (by decide) (E.w tm_1320 rfl) (fun _ h => h) rfl (tyX9_ok 2 (by decide)) hn hfit hl hdg (fun H1 locs1 h1 h2 h3 => q H1 locs1 ⟨h1, h2, h3⟩)
theorem pf_X9_193 {p : Program} {l : Launch} {e : Env} {R : Room} {s : State} {m : MethodId} {args : Array Value} {below : List Frame} {meth : Method} {c : Code} {H : Heap} {locs : List Loc} {cells slots : Nat} {Q : State → Prop} {cc : ByteArray} {pc nL : Nat} {ls : Array Slot} {rest : List Value} {k : KT} {A : Nat → Prop} {ws ws2 : va_W} {H0 : Heap} {a : Nat} (E : E0 p s m c cc nL RX9 k A) (hW : WD k A H0 ws H locs) (q0 : Nat) {fs : List Value} (he : ws[q0]? = some (a, .inr (7, fs))) {v : Value} (hn : narrow (tyX9 3) v = v) (hfit : fits (tyX9 3) v = true) (hl : 3 < fs.length) (hdg : decode cc pc = .ok (.putfield 193, 3)) (hws : ws.set q0 (a, .inr (7, fs.set 3 v)) = ws2) (q : ∀ (H1 : Heap) (locs1 : List Loc), WD k A H0 ws2 H1 locs1 → W p l e R s m args below meth c H1 locs1 cells slots Q (F0 m (pc + 3) ls rest)) : W p l e R s m args below meth c H locs cells slots Q (F0 m pc ls (v :: .ref a :: rest)) := by
  subst hws
  exact va_put (C := RX9) (T := TX9) (N := 41) (ci := 7) (ty := tyX9 3) E.hx E.hb (Ts := wsX90) (fun w hw => E.w (inX9 w hw) (tbl_laysX9 w hw)) (fun _ h => h) tyX9 tyX9_ok nmX9 E.ho E.hK hW.1 hW.2.1 hW.2.2 q0 he rfl 3 (by decide) (E.w tm_1321 rfl) (fun _ h => h) rfl (tyX9_ok 3 (by decide)) hn hfit hl hdg (fun H1 locs1 h1 h2 h3 => q H1 locs1 ⟨h1, h2, h3⟩)
theorem pf_X9_117 {p : Program} {l : Launch} {e : Env} {R : Room} {s : State} {m : MethodId} {args : Array Value} {below : List Frame} {meth : Method} {c : Code} {H : Heap} {locs : List Loc} {cells slots : Nat} {Q : State → Prop} {cc : ByteArray} {pc nL : Nat} {ls : Array Slot} {rest : List Value} {k : KT} {A : Nat → Prop} {ws ws2 : va_W} {H0 : Heap} {a : Nat} (E : E0 p s m c cc nL RX9 k A) (hW : WD k A H0 ws H locs) (q0 : Nat) {fs : List Value} (he : ws[q0]? = some (a, .inr (7, fs))) {v : Value} (hn : narrow (tyX9 4) v = v) (hfit : fits (tyX9 4) v = true) (hl : 4 < fs.length) (hdg : decode cc pc = .ok (.putfield 117, 3)) (hws : ws.set q0 (a, .inr (7, fs.set 4 v)) = ws2) (q : ∀ (H1 : Heap) (locs1 : List Loc), WD k A H0 ws2 H1 locs1 → W p l e R s m args below meth c H1 locs1 cells slots Q (F0 m (pc + 3) ls rest)) : W p l e R s m args below meth c H locs cells slots Q (F0 m pc ls (v :: .ref a :: rest)) := by
  subst hws
  exact va_put (C := RX9) (T := TX9) (N := 41) (ci := 7) (ty := tyX9 4) E.hx E.hb (Ts := wsX90) (fun w hw => E.w (inX9 w hw) (tbl_laysX9 w hw)) (fun _ h => h) tyX9 tyX9_ok nmX9 E.ho E.hK hW.1 hW.2.1 hW.2.2 q0 he rfl 4 (by decide) (E.w tm_1322 rfl) (fun _ h => h) rfl (tyX9_ok 4 (by decide)) hn hfit hl hdg (fun H1 locs1 h1 h2 h3 => q H1 locs1 ⟨h1, h2, h3⟩)
theorem pf_X9_190 {p : Program} {l : Launch} {e : Env} {R : Room} {s : State} {m : MethodId} {args : Array Value} {below : List Frame} {meth : Method} {c : Code} {H : Heap} {locs : List Loc} {cells slots : Nat} {Q : State → Prop} {cc : ByteArray} {pc nL : Nat} {ls : Array Slot} {rest : List Value} {k : KT} {A : Nat → Prop} {ws ws2 : va_W} {H0 : Heap} {a : Nat} (E : E0 p s m c cc nL RX9 k A) (hW : WD k A H0 ws H locs) (q0 : Nat) {fs : List Value} (he : ws[q0]? = some (a, .inr (7, fs))) {v : Value} (hn : narrow (tyX9 5) v = v) (hfit : fits (tyX9 5) v = true) (hl : 5 < fs.length) (hdg : decode cc pc = .ok (.putfield 190, 3)) (hws : ws.set q0 (a, .inr (7, fs.set 5 v)) = ws2) (q : ∀ (H1 : Heap) (locs1 : List Loc), WD k A H0 ws2 H1 locs1 → W p l e R s m args below meth c H1 locs1 cells slots Q (F0 m (pc + 3) ls rest)) : W p l e R s m args below meth c H locs cells slots Q (F0 m pc ls (v :: .ref a :: rest)) := by
  subst hws
  exact va_put (C := RX9) (T := TX9) (N := 41) (ci := 7) (ty := tyX9 5) E.hx E.hb (Ts := wsX90) (fun w hw => E.w (inX9 w hw) (tbl_laysX9 w hw)) (fun _ h => h) tyX9 tyX9_ok nmX9 E.ho E.hK hW.1 hW.2.1 hW.2.2 q0 he rfl 5 (by decide) (E.w tm_1323 rfl) (fun _ h => h) rfl (tyX9_ok 5 (by decide)) hn hfit hl hdg (fun H1 locs1 h1 h2 h3 => q H1 locs1 ⟨h1, h2, h3⟩)
theorem pf_X9_148 {p : Program} {l : Launch} {e : Env} {R : Room} {s : State} {m : MethodId} {args : Array Value} {below : List Frame} {meth : Method} {c : Code} {H : Heap} {locs : List Loc} {cells slots : Nat} {Q : State → Prop} {cc : ByteArray} {pc nL : Nat} {ls : Array Slot} {rest : List Value} {k : KT} {A : Nat → Prop} {ws ws2 : va_W} {H0 : Heap} {a : Nat} (E : E0 p s m c cc nL RX9 k A) (hW : WD k A H0 ws H locs) (q0 : Nat) {fs : List Value} (he : ws[q0]? = some (a, .inr (7, fs))) {v : Value} (hn : narrow (tyX9 6) v = v) (hfit : fits (tyX9 6) v = true) (hl : 6 < fs.length) (hdg : decode cc pc = .ok (.putfield 148, 3)) (hws : ws.set q0 (a, .inr (7, fs.set 6 v)) = ws2) (q : ∀ (H1 : Heap) (locs1 : List Loc), WD k A H0 ws2 H1 locs1 → W p l e R s m args below meth c H1 locs1 cells slots Q (F0 m (pc + 3) ls rest)) : W p l e R s m args below meth c H locs cells slots Q (F0 m pc ls (v :: .ref a :: rest)) := by
  subst hws
  exact va_put (C := RX9) (T := TX9) (N := 41) (ci := 7) (ty := tyX9 6) E.hx E.hb (Ts := wsX90) (fun w hw => E.w (inX9 w hw) (tbl_laysX9 w hw)) (fun _ h => h) tyX9 tyX9_ok nmX9 E.ho E.hK hW.1 hW.2.1 hW.2.2 q0 he rfl 6 (by decide) (E.w tm_1324 rfl) (fun _ h => h) rfl (tyX9_ok 6 (by decide)) hn hfit hl hdg (fun H1 locs1 h1 h2 h3 => q H1 locs1 ⟨h1, h2, h3⟩)
theorem pf_X9_251 {p : Program} {l : Launch} {e : Env} {R : Room} {s : State} {m : MethodId} {args : Array Value} {below : List Frame} {meth : Method} {c : Code} {H : Heap} {locs : List Loc} {cells slots : Nat} {Q : State → Prop} {cc : ByteArray} {pc nL : Nat} {ls : Array Slot} {rest : List Value} {k : KT} {A : Nat → Prop} {ws ws2 : va_W} {H0 : Heap} {a : Nat} (E : E0 p s m c cc nL RX9 k A) (hW : WD k A H0 ws H locs) (q0 : Nat) {fs : List Value} (he : ws[q0]? = some (a, .inr (7, fs))) {v : Value} (hn : narrow (tyX9 7) v = v) (hfit : fits (tyX9 7) v = true) (hl : 7 < fs.length) (hdg : decode cc pc = .ok (.putfield 251, 3)) (hws : ws.set q0 (a, .inr (7, fs.set 7 v)) = ws2) (q : ∀ (H1 : Heap) (locs1 : List Loc), WD k A H0 ws2 H1 locs1 → W p l e R s m args below meth c H1 locs1 cells slots Q (F0 m (pc + 3) ls rest)) : W p l e R s m args below meth c H locs cells slots Q (F0 m pc ls (v :: .ref a :: rest)) := by
  subst hws
  exact va_put (C := RX9) (T := TX9) (N := 41) (ci := 7) (ty := tyX9 7) E.hx E.hb (Ts := wsX90) (fun w hw => E.w (inX9 w hw) (tbl_laysX9 w hw)) (fun _ h => h) tyX9 tyX9_ok nmX9 E.ho E.hK hW.1 hW.2.1 hW.2.2 q0 he rfl 7 (by decide) (E.w tm_1325 rfl) (fun _ h => h) rfl (tyX9_ok 7 (by decide)) hn hfit hl hdg (fun H1 locs1 h1 h2 h3 => q H1 locs1 ⟨h1, h2, h3⟩)
theorem gf_X9_7 {p : Program} {l : Launch} {e : Env} {R : Room} {s : State} {m : MethodId} {args : Array Value} {below : List Frame} {meth : Method} {c : Code} {H : Heap} {locs : List Loc} {cells slots : Nat} {Q : State → Prop} {cc : ByteArray} {pc nL : Nat} {ls : Array Slot} {rest : List Value} {k : KT} {A : Nat → Prop} {ws : va_W} {H0 : Heap} {a : Nat} (E : E0 p s m c cc nL RX9 k A) (hW : WD k A H0 ws H locs) (q0 : Nat) {fs : List Value} (he : ws[q0]? = some (a, .inr (7, fs))) {v : Value} (hv : fs[8]? = some v) (hdg : decode cc pc = .ok (.getfield 7, 3)) (q : W p l e R s m args below meth c H locs cells slots Q (F0 m (pc + 3) ls (v :: rest))) : W p l e R s m args below meth c H locs cells slots Q (F0 m pc ls (.ref a :: rest)) := va_get (C := RX9) (T := TX9) (N := 41) (ci := 7) E.hx E.hb (Ts := wsX90) (fun w hw => E.w (inX9 w hw) (tbl_laysX9 w hw)) (fun _ h => h) E.ho E.hK hW.1 q0 he rfl 8 (by decide) (E.w tm_1326 rfl) (fun _ h => h) hv hdg q
theorem gf_X9_52 {p : Program} {l : Launch} {e : Env} {R : Room} {s : State} {m : MethodId} {args : Array Value} {below : List Frame} {meth : Method} {c : Code} {H : Heap} {locs : List Loc} {cells slots : Nat} {Q : State → Prop} {cc : ByteArray} {pc nL : Nat} {ls : Array Slot} {rest : List Value} {k : KT} {A : Nat → Prop} {ws : va_W} {H0 : Heap} {a : Nat} (E : E0 p s m c cc nL RX9 k A) (hW : WD k A H0 ws H locs) (q0 : Nat) {fs : List Value} (he : ws[q0]? = some (a, .inr (7, fs))) {v : Value} (hv : fs[38]? = some v) (hdg : decode cc pc = .ok (.getfield 52, 3)) (q : W p l e R s m args below meth c H locs cells slots Q (F0 m (pc + 3) ls (v :: rest))) : W p l e R s m args below meth c H locs cells slots Q (F0 m pc ls (.ref a :: rest)) := va_get (C := RX9) (T := TX9) (N := 41) (ci := 7) E.hx E.hb (Ts := wsX90) (fun w hw => E.w (inX9 w hw) (tbl_laysX9 w hw)) (fun _ h => h) E.ho E.hK hW.1 q0 he rfl 38 (by decide) (E.w tm_1356 rfl) (fun _ h => h) hv hdg q
theorem gf_X9_327 {p : Program} {l : Launch} {e : Env} {R : Room} {s : State} {m : MethodId} {args : Array Value} {below : List Frame} {meth : Method} {c : Code} {H : Heap} {locs : List Loc} {cells slots : Nat} {Q : State → Prop} {cc : ByteArray} {pc nL : Nat} {ls : Array Slot} {rest : List Value} {k : KT} {A : Nat → Prop} {ws : va_W} {H0 : Heap} {a : Nat} (E : E0 p s m c cc nL RX9 k A) (hW : WD k A H0 ws H locs) (q0 : Nat) {fs : List Value} (he : ws[q0]? = some (a, .inr (7, fs))) {v : Value} (hv : fs[23]? = some v) (hdg : decode cc pc = .ok (.getfield 327, 3)) (q : W p l e R s m args below meth c H locs cells slots Q (F0 m (pc + 3) ls (v :: rest))) : W p l e R s m args below meth c H locs cells slots Q (F0 m pc ls (.ref a :: rest)) := va_get (C := RX9) (T := TX9) (N := 41) (ci := 7) E.hx E.hb (Ts := wsX90) (fun w hw => E.w (inX9 w hw) (tbl_laysX9 w hw)) (fun _ h => h) E.ho E.hK hW.1 q0 he rfl 23 (by decide) (E.w tm_1341 rfl) (fun _ h => h) hv hdg q
theorem gf_X9_42 {p : Program} {l : Launch} {e : Env} {R : Room} {s : State} {m : MethodId} {args : Array Value} {below : List Frame} {meth : Method} {c : Code} {H : Heap} {locs : List Loc} {cells slots : Nat} {Q : State → Prop} {cc : ByteArray} {pc nL : Nat} {ls : Array Slot} {rest : List Value} {k : KT} {A : Nat → Prop} {ws : va_W} {H0 : Heap} {a : Nat} (E : E0 p s m c cc nL RX9 k A) (hW : WD k A H0 ws H locs) (q0 : Nat) {fs : List Value} (he : ws[q0]? = some (a, .inr (7, fs))) {v : Value} (hv : fs[22]? = some v) (hdg : decode cc pc = .ok (.getfield 42, 3)) (q : W p l e R s m args below meth c H locs cells slots Q (F0 m (pc + 3) ls (v :: rest))) : W p l e R s m args below meth c H locs cells slots Q (F0 m pc ls (.ref a :: rest)) := va_get (C := RX9) (T := TX9) (N := 41) (ci := 7) E.hx E.hb (Ts := wsX90) (fun w hw => E.w (inX9 w hw) (tbl_laysX9 w hw)) (fun _ h => h) E.ho E.hK hW.1 q0 he rfl 22 (by decide) (E.w tm_1340 rfl) (fun _ h => h) hv hdg q
theorem pf_X9_327 {p : Program} {l : Launch} {e : Env} {R : Room} {s : State} {m : MethodId} {args : Array Value} {below : List Frame} {meth : Method} {c : Code} {H : Heap} {locs : List Loc} {cells slots : Nat} {Q : State → Prop} {cc : ByteArray} {pc nL : Nat} {ls : Array Slot} {rest : List Value} {k : KT} {A : Nat → Prop} {ws ws2 : va_W} {H0 : Heap} {a : Nat} (E : E0 p s m c cc nL RX9 k A) (hW : WD k A H0 ws H locs) (q0 : Nat) {fs : List Value} (he : ws[q0]? = some (a, .inr (7, fs))) {v : Value} (hn : narrow (tyX9 23) v = v) (hfit : fits (tyX9 23) v = true) (hl : 23 < fs.length) (hdg : decode cc pc = .ok (.putfield 327, 3)) (hws : ws.set q0 (a, .inr (7, fs.set 23 v)) = ws2) (q : ∀ (H1 : Heap) (locs1 : List Loc), WD k A H0 ws2 H1 locs1 → W p l e R s m args below meth c H1 locs1 cells slots Q (F0 m (pc + 3) ls rest)) : W p l e R s m args below meth c H locs cells slots Q (F0 m pc ls (v :: .ref a :: rest)) := by
  subst hws
  exact va_put (C := RX9) (T := TX9) (N := 41) (ci := 7) (ty := tyX9 23) E.hx E.hb (Ts := wsX90) (fun w hw => E.w (inX9 w hw) (tbl_laysX9 w hw)) (fun _ h => h) tyX9 tyX9_ok nmX9 E.ho E.hK hW.1 hW.2.1 hW.2.2 q0 he rfl 23 (by decide) (E.w tm_1341 rfl) (fun _ h => h) rfl (tyX9_ok 23 (by decide)) hn hfit hl hdg (fun H1 locs1 h1 h2 h3 => q H1 locs1 ⟨h1, h2, h3⟩)
theorem gf_X9_330 {p : Program} {l : Launch} {e : Env} {R : Room} {s : State} {m : MethodId} {args : Array Value} {below : List Frame} {meth : Method} {c : Code} {H : Heap} {locs : List Loc} {cells slots : Nat} {Q : State → Prop} {cc : ByteArray} {pc nL : Nat} {ls : Array Slot} {rest : List Value} {k : KT} {A : Nat → Prop} {ws : va_W} {H0 : Heap} {a : Nat} (E : E0 p s m c cc nL RX9 k A) (hW : WD k A H0 ws H locs) (q0 : Nat) {fs : List Value} (he : ws[q0]? = some (a, .inr (7, fs))) {v : Value} (hv : fs[24]? = some v) (hdg : decode cc pc = .ok (.getfield 330, 3)) (q : W p l e R s m args below meth c H locs cells slots Q (F0 m (pc + 3) ls (v :: rest))) : W p l e R s m args below meth c H locs cells slots Q (F0 m pc ls (.ref a :: rest)) := va_get (C := RX9) (T := TX9) (N := 41) (ci := 7) E.hx E.hb (Ts := wsX90) (fun w hw => E.w (inX9 w hw) (tbl_laysX9 w hw)) (fun _ h => h) E.ho E.hK hW.1 q0 he rfl 24 (by decide) (E.w tm_1342 rfl) (fun _ h => h) hv hdg q
theorem gf_X9_383 {p : Program} {l : Launch} {e : Env} {R : Room} {s : State} {m : MethodId} {args : Array Value} {below : List Frame} {meth : Method} {c : Code} {H : Heap} {locs : List Loc} {cells slots : Nat} {Q : State → Prop} {cc : ByteArray} {pc nL : Nat} {ls : Array Slot} {rest : List Value} {k : KT} {A : Nat → Prop} {ws : va_W} {H0 : Heap} {a : Nat} (E : E0 p s m c cc nL RX9 k A) (hW : WD k A H0 ws H locs) (q0 : Nat) {fs : List Value} (he : ws[q0]? = some (a, .inr (7, fs))) {v : Value} (hv : fs[31]? = some v) (hdg : decode cc pc = .ok (.getfield 383, 3)) (q : W p l e R s m args below meth c H locs cells slots Q (F0 m (pc + 3) ls (v :: rest))) : W p l e R s m args below meth c H locs cells slots Q (F0 m pc ls (.ref a :: rest)) := va_get (C := RX9) (T := TX9) (N := 41) (ci := 7) E.hx E.hb (Ts := wsX90) (fun w hw => E.w (inX9 w hw) (tbl_laysX9 w hw)) (fun _ h => h) E.ho E.hK hW.1 q0 he rfl 31 (by decide) (E.w tm_1349 rfl) (fun _ h => h) hv hdg q
theorem gf_X9_46 {p : Program} {l : Launch} {e : Env} {R : Room} {s : State} {m : MethodId} {args : Array Value} {below : List Frame} {meth : Method} {c : Code} {H : Heap} {locs : List Loc} {cells slots : Nat} {Q : State → Prop} {cc : ByteArray} {pc nL : Nat} {ls : Array Slot} {rest : List Value} {k : KT} {A : Nat → Prop} {ws : va_W} {H0 : Heap} {a : Nat} (E : E0 p s m c cc nL RX9 k A) (hW : WD k A H0 ws H locs) (q0 : Nat) {fs : List Value} (he : ws[q0]? = some (a, .inr (7, fs))) {v : Value} (hv : fs[32]? = some v) (hdg : decode cc pc = .ok (.getfield 46, 3)) (q : W p l e R s m args below meth c H locs cells slots Q (F0 m (pc + 3) ls (v :: rest))) : W p l e R s m args below meth c H locs cells slots Q (F0 m pc ls (.ref a :: rest)) := va_get (C := RX9) (T := TX9) (N := 41) (ci := 7) E.hx E.hb (Ts := wsX90) (fun w hw => E.w (inX9 w hw) (tbl_laysX9 w hw)) (fun _ h => h) E.ho E.hK hW.1 q0 he rfl 32 (by decide) (E.w tm_1350 rfl) (fun _ h => h) hv hdg q
theorem gf_X9_438 {p : Program} {l : Launch} {e : Env} {R : Room} {s : State} {m : MethodId} {args : Array Value} {below : List Frame} {meth : Method} {c : Code} {H : Heap} {locs : List Loc} {cells slots : Nat} {Q : State → Prop} {cc : ByteArray} {pc nL : Nat} {ls : Array Slot} {rest : List Value} {k : KT} {A : Nat → Prop} {ws : va_W} {H0 : Heap} {a : Nat} (E : E0 p s m c cc nL RX9 k A) (hW : WD k A H0 ws H locs) (q0 : Nat) {fs : List Value} (he : ws[q0]? = some (a, .inr (7, fs))) {v : Value} (hv : fs[40]? = some v) (hdg : decode cc pc = .ok (.getfield 438, 3)) (q : W p l e R s m args below meth c H locs cells slots Q (F0 m (pc + 3) ls (v :: rest))) : W p l e R s m args below meth c H locs cells slots Q (F0 m pc ls (.ref a :: rest)) := va_get (C := RX9) (T := TX9) (N := 41) (ci := 7) E.hx E.hb (Ts := wsX90) (fun w hw => E.w (inX9 w hw) (tbl_laysX9 w hw)) (fun _ h => h) E.ho E.hK hW.1 q0 he rfl 40 (by decide) (E.w tm_1358 rfl) (fun _ h => h) hv hdg q
theorem gf_X9_55 {p : Program} {l : Launch} {e : Env} {R : Room} {s : State} {m : MethodId} {args : Array Value} {below : List Frame} {meth : Method} {c : Code} {H : Heap} {locs : List Loc} {cells slots : Nat} {Q : State → Prop} {cc : ByteArray} {pc nL : Nat} {ls : Array Slot} {rest : List Value} {k : KT} {A : Nat → Prop} {ws : va_W} {H0 : Heap} {a : Nat} (E : E0 p s m c cc nL RX9 k A) (hW : WD k A H0 ws H locs) (q0 : Nat) {fs : List Value} (he : ws[q0]? = some (a, .inr (7, fs))) {v : Value} (hv : fs[39]? = some v) (hdg : decode cc pc = .ok (.getfield 55, 3)) (q : W p l e R s m args below meth c H locs cells slots Q (F0 m (pc + 3) ls (v :: rest))) : W p l e R s m args below meth c H locs cells slots Q (F0 m pc ls (.ref a :: rest)) := va_get (C := RX9) (T := TX9) (N := 41) (ci := 7) E.hx E.hb (Ts := wsX90) (fun w hw => E.w (inX9 w hw) (tbl_laysX9 w hw)) (fun _ h => h) E.ho E.hK hW.1 q0 he rfl 39 (by decide) (E.w tm_1357 rfl) (fun _ h => h) hv hdg q
theorem pf_X9_383 {p : Program} {l : Launch} {e : Env} {R : Room} {s : State} {m : MethodId} {args : Array Value} {below : List Frame} {meth : Method} {c : Code} {H : Heap} {locs : List Loc} {cells slots : Nat} {Q : State → Prop} {cc : ByteArray} {pc nL : Nat} {ls : Array Slot} {rest : List Value} {k : KT} {A : Nat → Prop} {ws ws2 : va_W} {H0 : Heap} {a : Nat} (E : E0 p s m c cc nL RX9 k A) (hW : WD k A H0 ws H locs) (q0 : Nat) {fs : List Value} (he : ws[q0]? = some (a, .inr (7, fs))) {v : Value} (hn : narrow (tyX9 31) v = v) (hfit : fits (tyX9 31) v = true) (hl : 31 < fs.length) (hdg : decode cc pc = .ok (.putfield 383, 3)) (hws : ws.set q0 (a, .inr (7, fs.set 31 v)) = ws2) (q : ∀ (H1 : Heap) (locs1 : List Loc), WD k A H0 ws2 H1 locs1 → W p l e R s m args below meth c H1 locs1 cells slots Q (F0 m (pc + 3) ls rest)) : W p l e R s m args below meth c H locs cells slots Q (F0 m pc ls (v :: .ref a :: rest)) := by
  subst hws
  exact va_put (C := RX9) (T := TX9) (N := 41) (ci := 7) (ty := tyX9 31) E.hx E.hb (Ts := wsX90) (fun w hw => E.w (inX9 w hw) (tbl_laysX9 w hw)) (fun _ h => h) tyX9 tyX9_ok nmX9 E.ho E.hK hW.1 hW.2.1 hW.2.2 q0 he rfl 31 (by decide) (E.w tm_1349 rfl) (fun _ h => h) rfl (tyX9_ok 31 (by decide)) hn hfit hl hdg (fun H1 locs1 h1 h2 h3 => q H1 locs1 ⟨h1, h2, h3⟩)
theorem gf_X9_343 {p : Program} {l : Launch} {e : Env} {R : Room} {s : State} {m : MethodId} {args : Array Value} {below : List Frame} {meth : Method} {c : Code} {H : Heap} {locs : List Loc} {cells slots : Nat} {Q : State → Prop} {cc : ByteArray} {pc nL : Nat} {ls : Array Slot} {rest : List Value} {k : KT} {A : Nat → Prop} {ws : va_W} {H0 : Heap} {a : Nat} (E : E0 p s m c cc nL RX9 k A) (hW : WD k A H0 ws H locs) (q0 : Nat) {fs : List Value} (he : ws[q0]? = some (a, .inr (7, fs))) {v : Value} (hv : fs[26]? = some v) (hdg : decode cc pc = .ok (.getfield 343, 3)) (q : W p l e R s m args below meth c H locs cells slots Q (F0 m (pc + 3) ls (v :: rest))) : W p l e R s m args below meth c H locs cells slots Q (F0 m pc ls (.ref a :: rest)) := va_get (C := RX9) (T := TX9) (N := 41) (ci := 7) E.hx E.hb (Ts := wsX90) (fun w hw => E.w (inX9 w hw) (tbl_laysX9 w hw)) (fun _ h => h) E.ho E.hK hW.1 q0 he rfl 26 (by decide) (E.w tm_1344 rfl) (fun _ h => h) hv hdg q
theorem pf_X9_46 {p : Program} {l : Launch} {e : Env} {R : Room} {s : State} {m : MethodId} {args : Array Value} {below : List Frame} {meth : Method} {c : Code} {H : Heap} {locs : List Loc} {cells slots : Nat} {Q : State → Prop} {cc : ByteArray} {pc nL : Nat} {ls : Array Slot} {rest : List Value} {k : KT} {A : Nat → Prop} {ws ws2 : va_W} {H0 : Heap} {a : Nat} (E : E0 p s m c cc nL RX9 k A) (hW : WD k A H0 ws H locs) (q0 : Nat) {fs : List Value} (he : ws[q0]? = some (a, .inr (7, fs))) {v : Value} (hn : narrow (tyX9 32) v = v) (hfit : fits (tyX9 32) v = true) (hl : 32 < fs.length) (hdg : decode cc pc = .ok (.putfield 46, 3)) (hws : ws.set q0 (a, .inr (7, fs.set 32 v)) = ws2) (q : ∀ (H1 : Heap) (locs1 : List Loc), WD k A H0 ws2 H1 locs1 → W p l e R s m args below meth c H1 locs1 cells slots Q (F0 m (pc + 3) ls rest)) : W p l e R s m args below meth c H locs cells slots Q (F0 m pc ls (v :: .ref a :: rest)) := by
  subst hws
  exact va_put (C := RX9) (T := TX9) (N := 41) (ci := 7) (ty := tyX9 32) E.hx E.hb (Ts := wsX90) (fun w hw => E.w (inX9 w hw) (tbl_laysX9 w hw)) (fun _ h => h) tyX9 tyX9_ok nmX9 E.ho E.hK hW.1 hW.2.1 hW.2.2 q0 he rfl 32 (by decide) (E.w tm_1350 rfl) (fun _ h => h) rfl (tyX9_ok 32 (by decide)) hn hfit hl hdg (fun H1 locs1 h1 h2 h3 => q H1 locs1 ⟨h1, h2, h3⟩)
theorem gf_X9_346 {p : Program} {l : Launch} {e : Env} {R : Room} {s : State} {m : MethodId} {args : Array Value} {below : List Frame} {meth : Method} {c : Code} {H : Heap} {locs : List Loc} {cells slots : Nat} {Q : State → Prop} {cc : ByteArray} {pc nL : Nat} {ls : Array Slot} {rest : List Value} {k : KT} {A : Nat → Prop} {ws : va_W} {H0 : Heap} {a : Nat} (E : E0 p s m c cc nL RX9 k A) (hW : WD k A H0 ws H locs) (q0 : Nat) {fs : List Value} (he : ws[q0]? = some (a, .inr (7, fs))) {v : Value} (hv : fs[27]? = some v) (hdg : decode cc pc = .ok (.getfield 346, 3)) (q : W p l e R s m args below meth c H locs cells slots Q (F0 m (pc + 3) ls (v :: rest))) : W p l e R s m args below meth c H locs cells slots Q (F0 m pc ls (.ref a :: rest)) := va_get (C := RX9) (T := TX9) (N := 41) (ci := 7) E.hx E.hb (Ts := wsX90) (fun w hw => E.w (inX9 w hw) (tbl_laysX9 w hw)) (fun _ h => h) E.ho E.hK hW.1 q0 he rfl 27 (by decide) (E.w tm_1345 rfl) (fun _ h => h) hv hdg q
theorem gf_X9_363 {p : Program} {l : Launch} {e : Env} {R : Room} {s : State} {m : MethodId} {args : Array Value} {below : List Frame} {meth : Method} {c : Code} {H : Heap} {locs : List Loc} {cells slots : Nat} {Q : State → Prop} {cc : ByteArray} {pc nL : Nat} {ls : Array Slot} {rest : List Value} {k : KT} {A : Nat → Prop} {ws : va_W} {H0 : Heap} {a : Nat} (E : E0 p s m c cc nL RX9 k A) (hW : WD k A H0 ws H locs) (q0 : Nat) {fs : List Value} (he : ws[q0]? = some (a, .inr (7, fs))) {v : Value} (hv : fs[28]? = some v) (hdg : decode cc pc = .ok (.getfield 363, 3)) (q : W p l e R s m args below meth c H locs cells slots Q (F0 m (pc + 3) ls (v :: rest))) : W p l e R s m args below meth c H locs cells slots Q (F0 m pc ls (.ref a :: rest)) := va_get (C := RX9) (T := TX9) (N := 41) (ci := 7) E.hx E.hb (Ts := wsX90) (fun w hw => E.w (inX9 w hw) (tbl_laysX9 w hw)) (fun _ h => h) E.ho E.hK hW.1 q0 he rfl 28 (by decide) (E.w tm_1346 rfl) (fun _ h => h) hv hdg q
theorem gf_X9_340 {p : Program} {l : Launch} {e : Env} {R : Room} {s : State} {m : MethodId} {args : Array Value} {below : List Frame} {meth : Method} {c : Code} {H : Heap} {locs : List Loc} {cells slots : Nat} {Q : State → Prop} {cc : ByteArray} {pc nL : Nat} {ls : Array Slot} {rest : List Value} {k : KT} {A : Nat → Prop} {ws : va_W} {H0 : Heap} {a : Nat} (E : E0 p s m c cc nL RX9 k A) (hW : WD k A H0 ws H locs) (q0 : Nat) {fs : List Value} (he : ws[q0]? = some (a, .inr (7, fs))) {v : Value} (hv : fs[25]? = some v) (hdg : decode cc pc = .ok (.getfield 340, 3)) (q : W p l e R s m args below meth c H locs cells slots Q (F0 m (pc + 3) ls (v :: rest))) : W p l e R s m args below meth c H locs cells slots Q (F0 m pc ls (.ref a :: rest)) := va_get (C := RX9) (T := TX9) (N := 41) (ci := 7) E.hx E.hb (Ts := wsX90) (fun w hw => E.w (inX9 w hw) (tbl_laysX9 w hw)) (fun _ h => h) E.ho E.hK hW.1 q0 he rfl 25 (by decide) (E.w tm_1343 rfl) (fun _ h => h) hv hdg q
theorem pf_X9_438 {p : Program} {l : Launch} {e : Env} {R : Room} {s : State} {m : MethodId} {args : Array Value} {below : List Frame} {meth : Method} {c : Code} {H : Heap} {locs : List Loc} {cells slots : Nat} {Q : State → Prop} {cc : ByteArray} {pc nL : Nat} {ls : Array Slot} {rest : List Value} {k : KT} {A : Nat → Prop} {ws ws2 : va_W} {H0 : Heap} {a : Nat} (E : E0 p s m c cc nL RX9 k A) (hW : WD k A H0 ws H locs) (q0 : Nat) {fs : List Value} (he : ws[q0]? = some (a, .inr (7, fs))) {v : Value} (hn : narrow (tyX9 40) v = v) (hfit : fits (tyX9 40) v = true) (hl : 40 < fs.length) (hdg : decode cc pc = .ok (.putfield 438, 3)) (hws : ws.set q0 (a, .inr (7, fs.set 40 v)) = ws2) (q : ∀ (H1 : Heap) (locs1 : List Loc), WD k A H0 ws2 H1 locs1 → W p l e R s m args below meth c H1 locs1 cells slots Q (F0 m (pc + 3) ls rest)) : W p l e R s m args below meth c H locs cells slots Q (F0 m pc ls (v :: .ref a :: rest)) := by
  subst hws
  exact va_put (C := RX9) (T := TX9) (N := 41) (ci := 7) (ty := tyX9 40) E.hx E.hb (Ts := wsX90) (fun w hw => E.w (inX9 w hw) (tbl_laysX9 w hw)) (fun _ h => h) tyX9 tyX9_ok nmX9 E.ho E.hK hW.1 hW.2.1 hW.2.2 q0 he rfl 40 (by decide) (E.w tm_1358 rfl) (fun _ h => h) rfl (tyX9_ok 40 (by decide)) hn hfit hl hdg (fun H1 locs1 h1 h2 h3 => q H1 locs1 ⟨h1, h2, h3⟩)
theorem vl_X9_304 : VL RX9 304 RX9 yX9_tries cX9_tries 1 none 0 := ⟨⟨tm_1787, tm_1789, tms_82, tm_119, tm_1790⟩, by decide +kernel⟩
theorem vl_X9_307 : VL RX9 307 RX9 yX9_laysBack cX9_laysBack 2 (some .int) 1 := ⟨⟨tm_1791, tm_1793, tms_83, tm_119, tm_1794⟩, by decide +kernel⟩
theorem vl_X9_300 : VL RX9 300 RX9 yX9_becomesIn cX9_becomesIn 6 (some .int) 3 := ⟨⟨tm_1783, tm_1785, tms_81, tm_119, tm_1786⟩, by decide +kernel⟩
theorem vl_X9_310 : VL RX9 310 RX9 yX9_doesHelp cX9_doesHelp 6 (some .boolean) 3 := ⟨⟨tm_1823, tm_1825, tms_84, tm_119, tm_1826⟩, by decide +kernel⟩
theorem vl_X9_333 : VL RX9 333 RX9 yX9_here cX9_here 2 (some .int) 1 := ⟨⟨tm_1847, tm_1849, tms_86, tm_119, tm_1850⟩, by decide +kernel⟩
theorem sl_X9_403 : SL RX9 403 yX9_indexOf cX9_indexOf 5 (some .int) 3 := ⟨⟨tm_1900, tm_1901, tm_119, tm_1902⟩, by decide +kernel⟩
theorem vl_X9_386 : VL RX9 386 RX9 yX9_fine_ cX9_fine_ 1 (some .boolean) 0 := ⟨⟨tm_1872, tm_1874, tms_90, tm_119, tm_1875⟩, by decide +kernel⟩
theorem dX9_becomesIn_0 : decode cX9_becomesIn 0 = .ok (.aload_n 0, 1) := by decide +kernel
theorem dX9_becomesIn_1 : decode cX9_becomesIn 1 = .ok (.invokevirtual 304, 3) := by decide +kernel
theorem dX9_becomesIn_4 : decode cX9_becomesIn 4 = .ok (.iconst 0, 1) := by decide +kernel
theorem dX9_becomesIn_5 : decode cX9_becomesIn 5 = .ok (.istore 4, 2) := by decide +kernel
theorem dX9_becomesIn_7 : decode cX9_becomesIn 7 = .ok (.iload 4, 2) := by decide +kernel
theorem dX9_becomesIn_9 : decode cX9_becomesIn 9 = .ok (.iload_n 2, 1) := by decide +kernel
theorem dX9_becomesIn_10 : decode cX9_becomesIn 10 = .ok (.if_icmp .ge 36, 3) := by decide +kernel
theorem dX9_becomesIn_13 : decode cX9_becomesIn 13 = .ok (.aload_n 0, 1) := by decide +kernel
theorem dX9_becomesIn_14 : decode cX9_becomesIn 14 = .ok (.getfield 13, 3) := by decide +kernel
theorem dX9_becomesIn_17 : decode cX9_becomesIn 17 = .ok (.iconst 0, 1) := by decide +kernel
theorem dX9_becomesIn_18 : decode cX9_becomesIn 18 = .ok (.iaload, 1) := by decide +kernel
theorem dX9_becomesIn_19 : decode cX9_becomesIn 19 = .ok (.sipush 2000, 3) := by decide +kernel
theorem dX9_becomesIn_22 : decode cX9_becomesIn 22 = .ok (.if_icmp .ge 24, 3) := by decide +kernel
theorem dX9_becomesIn_25 : decode cX9_becomesIn 25 = .ok (.aload_n 0, 1) := by decide +kernel
theorem dX9_becomesIn_26 : decode cX9_becomesIn 26 = .ok (.iload_n 1, 1) := by decide +kernel
theorem dX9_becomesIn_27 : decode cX9_becomesIn 27 = .ok (.invokevirtual 142, 3) := by decide +kernel
theorem dX9_becomesIn_30 : decode cX9_becomesIn 30 = .ok (.ifCond .eq 16, 3) := by decide +kernel
theorem dX9_becomesIn_33 : decode cX9_becomesIn 33 = .ok (.aload_n 0, 1) := by decide +kernel
theorem dX9_becomesIn_34 : decode cX9_becomesIn 34 = .ok (.invokevirtual 202, 3) := by decide +kernel
theorem dX9_becomesIn_37 : decode cX9_becomesIn 37 = .ok (.iload 4, 2) := by decide +kernel
theorem dX9_becomesIn_39 : decode cX9_becomesIn 39 = .ok (.iconst 1, 1) := by decide +kernel
theorem dX9_becomesIn_40 : decode cX9_becomesIn 40 = .ok (.iadd, 1) := by decide +kernel
theorem dX9_becomesIn_41 : decode cX9_becomesIn 41 = .ok (.istore 4, 2) := by decide +kernel
theorem dX9_becomesIn_43 : decode cX9_becomesIn 43 = .ok (.goto (-36), 3) := by decide +kernel
theorem dX9_becomesIn_46 : decode cX9_becomesIn 46 = .ok (.aload_n 0, 1) := by decide +kernel
theorem dX9_becomesIn_47 : decode cX9_becomesIn 47 = .ok (.iload_n 1, 1) := by decide +kernel
theorem dX9_becomesIn_48 : decode cX9_becomesIn 48 = .ok (.iconst 3, 1) := by decide +kernel
theorem dX9_becomesIn_49 : decode cX9_becomesIn 49 = .ok (.invokevirtual 139, 3) := by decide +kernel
theorem dX9_becomesIn_52 : decode cX9_becomesIn 52 = .ok (.iload_n 3, 1) := by decide +kernel
theorem dX9_becomesIn_53 : decode cX9_becomesIn 53 = .ok (.if_icmp .ne 7, 3) := by decide +kernel
theorem dX9_becomesIn_56 : decode cX9_becomesIn 56 = .ok (.iconst 1, 1) := by decide +kernel
theorem dX9_becomesIn_57 : decode cX9_becomesIn 57 = .ok (.goto 4, 3) := by decide +kernel
theorem dX9_becomesIn_60 : decode cX9_becomesIn 60 = .ok (.iconst 0, 1) := by decide +kernel
theorem dX9_becomesIn_61 : decode cX9_becomesIn 61 = .ok (.istore 5, 2) := by decide +kernel
theorem dX9_becomesIn_63 : decode cX9_becomesIn 63 = .ok (.aload_n 0, 1) := by decide +kernel
theorem dX9_becomesIn_64 : decode cX9_becomesIn 64 = .ok (.iload 5, 2) := by decide +kernel
theorem dX9_becomesIn_66 : decode cX9_becomesIn 66 = .ok (.ifCond .eq 8, 3) := by decide +kernel
theorem dX9_becomesIn_69 : decode cX9_becomesIn 69 = .ok (.iload 4, 2) := by decide +kernel
theorem dX9_becomesIn_71 : decode cX9_becomesIn 71 = .ok (.goto 4, 3) := by decide +kernel
theorem dX9_becomesIn_74 : decode cX9_becomesIn 74 = .ok (.iconst (-1), 1) := by decide +kernel
theorem dX9_becomesIn_75 : decode cX9_becomesIn 75 = .ok (.invokevirtual 307, 3) := by decide +kernel
theorem dX9_becomesIn_78 : decode cX9_becomesIn 78 = .ok (.ireturn, 1) := by decide +kernel
theorem dX9_metIn_0 : decode cX9_metIn 0 = .ok (.aload_n 0, 1) := by decide +kernel
theorem dX9_metIn_1 : decode cX9_metIn 1 = .ok (.aload_n 0, 1) := by decide +kernel
theorem dX9_metIn_2 : decode cX9_metIn 2 = .ok (.iload_n 1, 1) := by decide +kernel
theorem dX9_metIn_3 : decode cX9_metIn 3 = .ok (.invokevirtual 232, 3) := by decide +kernel
theorem dX9_metIn_6 : decode cX9_metIn 6 = .ok (.invokevirtual 77, 3) := by decide +kernel
theorem dX9_metIn_9 : decode cX9_metIn 9 = .ok (.ifCond .eq 15, 3) := by decide +kernel
theorem dX9_metIn_12 : decode cX9_metIn 12 = .ok (.aload_n 0, 1) := by decide +kernel
theorem dX9_metIn_13 : decode cX9_metIn 13 = .ok (.iload_n 2, 1) := by decide +kernel
theorem dX9_metIn_14 : decode cX9_metIn 14 = .ok (.invokestatic 207, 3) := by decide +kernel
theorem dX9_metIn_17 : decode cX9_metIn 17 = .ok (.iconst 2, 1) := by decide +kernel
theorem dX9_metIn_18 : decode cX9_metIn 18 = .ok (.invokevirtual 210, 3) := by decide +kernel
theorem dX9_metIn_21 : decode cX9_metIn 21 = .ok (.ifCond .ne 5, 3) := by decide +kernel
theorem dX9_metIn_24 : decode cX9_metIn 24 = .ok (.iconst 0, 1) := by decide +kernel
theorem dX9_metIn_25 : decode cX9_metIn 25 = .ok (.ireturn, 1) := by decide +kernel
theorem dX9_metIn_26 : decode cX9_metIn 26 = .ok (.aload_n 0, 1) := by decide +kernel
theorem dX9_metIn_27 : decode cX9_metIn 27 = .ok (.iload_n 1, 1) := by decide +kernel
theorem dX9_metIn_28 : decode cX9_metIn 28 = .ok (.invokevirtual 142, 3) := by decide +kernel
theorem dX9_metIn_31 : decode cX9_metIn 31 = .ok (.ifCond .ne 5, 3) := by decide +kernel
theorem dX9_metIn_34 : decode cX9_metIn 34 = .ok (.iconst (-1), 1) := by decide +kernel
theorem dX9_metIn_35 : decode cX9_metIn 35 = .ok (.ireturn, 1) := by decide +kernel
theorem dX9_metIn_36 : decode cX9_metIn 36 = .ok (.aload_n 0, 1) := by decide +kernel
theorem dX9_metIn_37 : decode cX9_metIn 37 = .ok (.iload_n 1, 1) := by decide +kernel
theorem dX9_metIn_38 : decode cX9_metIn 38 = .ok (.iload_n 2, 1) := by decide +kernel
theorem dX9_metIn_39 : decode cX9_metIn 39 = .ok (.iconst 1, 1) := by decide +kernel
theorem dX9_metIn_40 : decode cX9_metIn 40 = .ok (.invokevirtual 300, 3) := by decide +kernel
theorem dX9_metIn_43 : decode cX9_metIn 43 = .ok (.ireturn, 1) := by decide +kernel
theorem dX9_refusedIn_0 : decode cX9_refusedIn 0 = .ok (.aload_n 0, 1) := by decide +kernel
theorem dX9_refusedIn_1 : decode cX9_refusedIn 1 = .ok (.aload_n 0, 1) := by decide +kernel
theorem dX9_refusedIn_2 : decode cX9_refusedIn 2 = .ok (.iload_n 1, 1) := by decide +kernel
theorem dX9_refusedIn_3 : decode cX9_refusedIn 3 = .ok (.invokevirtual 232, 3) := by decide +kernel
theorem dX9_refusedIn_6 : decode cX9_refusedIn 6 = .ok (.invokevirtual 77, 3) := by decide +kernel
theorem dX9_refusedIn_9 : decode cX9_refusedIn 9 = .ok (.ifCond .eq 15, 3) := by decide +kernel
theorem dX9_refusedIn_12 : decode cX9_refusedIn 12 = .ok (.aload_n 0, 1) := by decide +kernel
theorem dX9_refusedIn_13 : decode cX9_refusedIn 13 = .ok (.iload_n 2, 1) := by decide +kernel
theorem dX9_refusedIn_14 : decode cX9_refusedIn 14 = .ok (.invokestatic 207, 3) := by decide +kernel
theorem dX9_refusedIn_17 : decode cX9_refusedIn 17 = .ok (.iconst 2, 1) := by decide +kernel
theorem dX9_refusedIn_18 : decode cX9_refusedIn 18 = .ok (.invokevirtual 210, 3) := by decide +kernel
theorem dX9_refusedIn_21 : decode cX9_refusedIn 21 = .ok (.ifCond .ne 5, 3) := by decide +kernel
theorem dX9_refusedIn_24 : decode cX9_refusedIn 24 = .ok (.iconst 0, 1) := by decide +kernel
theorem dX9_refusedIn_25 : decode cX9_refusedIn 25 = .ok (.ireturn, 1) := by decide +kernel
theorem dX9_refusedIn_26 : decode cX9_refusedIn 26 = .ok (.aload_n 0, 1) := by decide +kernel
theorem dX9_refusedIn_27 : decode cX9_refusedIn 27 = .ok (.iload_n 1, 1) := by decide +kernel
theorem dX9_refusedIn_28 : decode cX9_refusedIn 28 = .ok (.invokevirtual 142, 3) := by decide +kernel
theorem dX9_refusedIn_31 : decode cX9_refusedIn 31 = .ok (.ifCond .eq 13, 3) := by decide +kernel
theorem dX9_refusedIn_34 : decode cX9_refusedIn 34 = .ok (.aload_n 0, 1) := by decide +kernel
theorem dX9_refusedIn_35 : decode cX9_refusedIn 35 = .ok (.iload_n 1, 1) := by decide +kernel
theorem dX9_refusedIn_36 : decode cX9_refusedIn 36 = .ok (.iload_n 2, 1) := by decide +kernel
theorem dX9_refusedIn_37 : decode cX9_refusedIn 37 = .ok (.iconst 2, 1) := by decide +kernel
theorem dX9_refusedIn_38 : decode cX9_refusedIn 38 = .ok (.invokevirtual 300, 3) := by decide +kernel
theorem dX9_refusedIn_41 : decode cX9_refusedIn 41 = .ok (.goto 4, 3) := by decide +kernel
theorem dX9_refusedIn_44 : decode cX9_refusedIn 44 = .ok (.iconst (-1), 1) := by decide +kernel
theorem dX9_refusedIn_45 : decode cX9_refusedIn 45 = .ok (.ireturn, 1) := by decide +kernel
theorem dX9_wouldPay_0 : decode cX9_wouldPay 0 = .ok (.aload_n 0, 1) := by decide +kernel
theorem dX9_wouldPay_1 : decode cX9_wouldPay 1 = .ok (.aload_n 0, 1) := by decide +kernel
theorem dX9_wouldPay_2 : decode cX9_wouldPay 2 = .ok (.iload_n 1, 1) := by decide +kernel
theorem dX9_wouldPay_3 : decode cX9_wouldPay 3 = .ok (.invokevirtual 223, 3) := by decide +kernel
theorem dX9_wouldPay_6 : decode cX9_wouldPay 6 = .ok (.invokevirtual 77, 3) := by decide +kernel
theorem dX9_wouldPay_9 : decode cX9_wouldPay 9 = .ok (.ifCond .ne 5, 3) := by decide +kernel
theorem dX9_wouldPay_12 : decode cX9_wouldPay 12 = .ok (.iconst 0, 1) := by decide +kernel
theorem dX9_wouldPay_13 : decode cX9_wouldPay 13 = .ok (.ireturn, 1) := by decide +kernel
theorem dX9_wouldPay_14 : decode cX9_wouldPay 14 = .ok (.aload_n 0, 1) := by decide +kernel
theorem dX9_wouldPay_15 : decode cX9_wouldPay 15 = .ok (.invokevirtual 297, 3) := by decide +kernel
theorem dX9_wouldPay_18 : decode cX9_wouldPay 18 = .ok (.istore_n 2, 1) := by decide +kernel
theorem dX9_wouldPay_19 : decode cX9_wouldPay 19 = .ok (.iload_n 2, 1) := by decide +kernel
theorem dX9_wouldPay_20 : decode cX9_wouldPay 20 = .ok (.iconst (-1), 1) := by decide +kernel
theorem dX9_wouldPay_21 : decode cX9_wouldPay 21 = .ok (.if_icmp .ne 5, 3) := by decide +kernel
theorem dX9_wouldPay_24 : decode cX9_wouldPay 24 = .ok (.iconst 0, 1) := by decide +kernel
theorem dX9_wouldPay_25 : decode cX9_wouldPay 25 = .ok (.ireturn, 1) := by decide +kernel
theorem dX9_wouldPay_26 : decode cX9_wouldPay 26 = .ok (.aload_n 0, 1) := by decide +kernel
theorem dX9_wouldPay_27 : decode cX9_wouldPay 27 = .ok (.invokevirtual 304, 3) := by decide +kernel
theorem dX9_wouldPay_30 : decode cX9_wouldPay 30 = .ok (.aload_n 0, 1) := by decide +kernel
theorem dX9_wouldPay_31 : decode cX9_wouldPay 31 = .ok (.iload_n 1, 1) := by decide +kernel
theorem dX9_wouldPay_32 : decode cX9_wouldPay 32 = .ok (.putfield 36, 3) := by decide +kernel
theorem dX9_wouldPay_35 : decode cX9_wouldPay 35 = .ok (.aload_n 0, 1) := by decide +kernel
theorem dX9_wouldPay_36 : decode cX9_wouldPay 36 = .ok (.iconst 0, 1) := by decide +kernel
theorem dX9_wouldPay_37 : decode cX9_wouldPay 37 = .ok (.putfield 136, 3) := by decide +kernel
theorem dX9_wouldPay_40 : decode cX9_wouldPay 40 = .ok (.aload_n 0, 1) := by decide +kernel
theorem dX9_wouldPay_41 : decode cX9_wouldPay 41 = .ok (.iload_n 2, 1) := by decide +kernel
theorem dX9_wouldPay_42 : decode cX9_wouldPay 42 = .ok (.aload_n 0, 1) := by decide +kernel
theorem dX9_wouldPay_43 : decode cX9_wouldPay 43 = .ok (.getfield 13, 3) := by decide +kernel
theorem dX9_wouldPay_46 : decode cX9_wouldPay 46 = .ok (.iconst 0, 1) := by decide +kernel
theorem dX9_wouldPay_47 : decode cX9_wouldPay 47 = .ok (.iaload, 1) := by decide +kernel
theorem dX9_wouldPay_48 : decode cX9_wouldPay 48 = .ok (.isub, 1) := by decide +kernel
theorem dX9_wouldPay_49 : decode cX9_wouldPay 49 = .ok (.invokevirtual 217, 3) := by decide +kernel
theorem dX9_wouldPay_52 : decode cX9_wouldPay 52 = .ok (.istore_n 3, 1) := by decide +kernel
theorem dX9_wouldPay_53 : decode cX9_wouldPay 53 = .ok (.aload_n 0, 1) := by decide +kernel
theorem dX9_wouldPay_54 : decode cX9_wouldPay 54 = .ok (.iconst (-1), 1) := by decide +kernel
theorem dX9_wouldPay_55 : decode cX9_wouldPay 55 = .ok (.putfield 36, 3) := by decide +kernel
theorem dX9_wouldPay_58 : decode cX9_wouldPay 58 = .ok (.aload_n 0, 1) := by decide +kernel
theorem dX9_wouldPay_59 : decode cX9_wouldPay 59 = .ok (.aload_n 0, 1) := by decide +kernel
theorem dX9_wouldPay_60 : decode cX9_wouldPay 60 = .ok (.getfield 136, 3) := by decide +kernel
theorem dX9_wouldPay_63 : decode cX9_wouldPay 63 = .ok (.invokevirtual 307, 3) := by decide +kernel
theorem dX9_wouldPay_66 : decode cX9_wouldPay 66 = .ok (.ireturn, 1) := by decide +kernel
theorem dX9_freeIn_0 : decode cX9_freeIn 0 = .ok (.aload_n 0, 1) := by decide +kernel
theorem dX9_freeIn_1 : decode cX9_freeIn 1 = .ok (.iload_n 1, 1) := by decide +kernel
theorem dX9_freeIn_2 : decode cX9_freeIn 2 = .ok (.invokestatic 207, 3) := by decide +kernel
theorem dX9_freeIn_5 : decode cX9_freeIn 5 = .ok (.invokevirtual 77, 3) := by decide +kernel
theorem dX9_freeIn_8 : decode cX9_freeIn 8 = .ok (.ifCond .ne 5, 3) := by decide +kernel
theorem dX9_freeIn_11 : decode cX9_freeIn 11 = .ok (.iconst 0, 1) := by decide +kernel
theorem dX9_freeIn_12 : decode cX9_freeIn 12 = .ok (.ireturn, 1) := by decide +kernel
theorem dX9_freeIn_13 : decode cX9_freeIn 13 = .ok (.aload_n 0, 1) := by decide +kernel
theorem dX9_freeIn_14 : decode cX9_freeIn 14 = .ok (.invokevirtual 304, 3) := by decide +kernel
theorem dX9_freeIn_17 : decode cX9_freeIn 17 = .ok (.aload_n 0, 1) := by decide +kernel
theorem dX9_freeIn_18 : decode cX9_freeIn 18 = .ok (.iload_n 1, 1) := by decide +kernel
theorem dX9_freeIn_19 : decode cX9_freeIn 19 = .ok (.invokevirtual 217, 3) := by decide +kernel
theorem dX9_freeIn_22 : decode cX9_freeIn 22 = .ok (.istore_n 2, 1) := by decide +kernel
theorem dX9_freeIn_23 : decode cX9_freeIn 23 = .ok (.aload_n 0, 1) := by decide +kernel
theorem dX9_freeIn_24 : decode cX9_freeIn 24 = .ok (.aload_n 0, 1) := by decide +kernel
theorem dX9_freeIn_25 : decode cX9_freeIn 25 = .ok (.invokevirtual 166, 3) := by decide +kernel
theorem dX9_freeIn_28 : decode cX9_freeIn 28 = .ok (.invokevirtual 307, 3) := by decide +kernel
theorem dX9_freeIn_31 : decode cX9_freeIn 31 = .ok (.ireturn, 1) := by decide +kernel
theorem dX9_wouldFine_0 : decode cX9_wouldFine 0 = .ok (.aload_n 0, 1) := by decide +kernel
theorem dX9_wouldFine_1 : decode cX9_wouldFine 1 = .ok (.aload_n 0, 1) := by decide +kernel
theorem dX9_wouldFine_2 : decode cX9_wouldFine 2 = .ok (.iload_n 1, 1) := by decide +kernel
theorem dX9_wouldFine_3 : decode cX9_wouldFine 3 = .ok (.invokevirtual 235, 3) := by decide +kernel
theorem dX9_wouldFine_6 : decode cX9_wouldFine 6 = .ok (.invokevirtual 77, 3) := by decide +kernel
theorem dX9_wouldFine_9 : decode cX9_wouldFine 9 = .ok (.ifCond .ne 5, 3) := by decide +kernel
theorem dX9_wouldFine_12 : decode cX9_wouldFine 12 = .ok (.iconst 0, 1) := by decide +kernel
theorem dX9_wouldFine_13 : decode cX9_wouldFine 13 = .ok (.ireturn, 1) := by decide +kernel
theorem dX9_wouldFine_14 : decode cX9_wouldFine 14 = .ok (.aload_n 0, 1) := by decide +kernel
theorem dX9_wouldFine_15 : decode cX9_wouldFine 15 = .ok (.invokevirtual 297, 3) := by decide +kernel
theorem dX9_wouldFine_18 : decode cX9_wouldFine 18 = .ok (.istore_n 2, 1) := by decide +kernel
theorem dX9_wouldFine_19 : decode cX9_wouldFine 19 = .ok (.iload_n 2, 1) := by decide +kernel
theorem dX9_wouldFine_20 : decode cX9_wouldFine 20 = .ok (.iconst (-1), 1) := by decide +kernel
theorem dX9_wouldFine_21 : decode cX9_wouldFine 21 = .ok (.if_icmp .ne 5, 3) := by decide +kernel
theorem dX9_wouldFine_24 : decode cX9_wouldFine 24 = .ok (.iconst 0, 1) := by decide +kernel
theorem dX9_wouldFine_25 : decode cX9_wouldFine 25 = .ok (.ireturn, 1) := by decide +kernel
theorem dX9_wouldFine_26 : decode cX9_wouldFine 26 = .ok (.aload_n 0, 1) := by decide +kernel
theorem dX9_wouldFine_27 : decode cX9_wouldFine 27 = .ok (.invokevirtual 304, 3) := by decide +kernel
theorem dX9_wouldFine_30 : decode cX9_wouldFine 30 = .ok (.aload_n 0, 1) := by decide +kernel
theorem dX9_wouldFine_31 : decode cX9_wouldFine 31 = .ok (.iload_n 1, 1) := by decide +kernel
theorem dX9_wouldFine_32 : decode cX9_wouldFine 32 = .ok (.putfield 32, 3) := by decide +kernel
theorem dX9_wouldFine_35 : decode cX9_wouldFine 35 = .ok (.aload_n 0, 1) := by decide +kernel
theorem dX9_wouldFine_36 : decode cX9_wouldFine 36 = .ok (.iconst 0, 1) := by decide +kernel
theorem dX9_wouldFine_37 : decode cX9_wouldFine 37 = .ok (.putfield 133, 3) := by decide +kernel
theorem dX9_wouldFine_40 : decode cX9_wouldFine 40 = .ok (.aload_n 0, 1) := by decide +kernel
theorem dX9_wouldFine_41 : decode cX9_wouldFine 41 = .ok (.iload_n 2, 1) := by decide +kernel
theorem dX9_wouldFine_42 : decode cX9_wouldFine 42 = .ok (.aload_n 0, 1) := by decide +kernel
theorem dX9_wouldFine_43 : decode cX9_wouldFine 43 = .ok (.getfield 13, 3) := by decide +kernel
theorem dX9_wouldFine_46 : decode cX9_wouldFine 46 = .ok (.iconst 0, 1) := by decide +kernel
theorem dX9_wouldFine_47 : decode cX9_wouldFine 47 = .ok (.iaload, 1) := by decide +kernel
theorem dX9_wouldFine_48 : decode cX9_wouldFine 48 = .ok (.isub, 1) := by decide +kernel
theorem dX9_wouldFine_49 : decode cX9_wouldFine 49 = .ok (.invokevirtual 217, 3) := by decide +kernel
theorem dX9_wouldFine_52 : decode cX9_wouldFine 52 = .ok (.istore_n 3, 1) := by decide +kernel
theorem dX9_wouldFine_53 : decode cX9_wouldFine 53 = .ok (.aload_n 0, 1) := by decide +kernel
theorem dX9_wouldFine_54 : decode cX9_wouldFine 54 = .ok (.iconst (-1), 1) := by decide +kernel
theorem dX9_wouldFine_55 : decode cX9_wouldFine 55 = .ok (.putfield 32, 3) := by decide +kernel
theorem dX9_wouldFine_58 : decode cX9_wouldFine 58 = .ok (.aload_n 0, 1) := by decide +kernel
theorem dX9_wouldFine_59 : decode cX9_wouldFine 59 = .ok (.aload_n 0, 1) := by decide +kernel
theorem dX9_wouldFine_60 : decode cX9_wouldFine 60 = .ok (.getfield 133, 3) := by decide +kernel
theorem dX9_wouldFine_63 : decode cX9_wouldFine 63 = .ok (.invokevirtual 307, 3) := by decide +kernel
theorem dX9_wouldFine_66 : decode cX9_wouldFine 66 = .ok (.ireturn, 1) := by decide +kernel
theorem dX9_processIn_0 : decode cX9_processIn 0 = .ok (.aload_n 0, 1) := by decide +kernel
theorem dX9_processIn_1 : decode cX9_processIn 1 = .ok (.aload_n 0, 1) := by decide +kernel
theorem dX9_processIn_2 : decode cX9_processIn 2 = .ok (.iload_n 1, 1) := by decide +kernel
theorem dX9_processIn_3 : decode cX9_processIn 3 = .ok (.invokevirtual 223, 3) := by decide +kernel
theorem dX9_processIn_6 : decode cX9_processIn 6 = .ok (.invokevirtual 77, 3) := by decide +kernel
theorem dX9_processIn_9 : decode cX9_processIn 9 = .ok (.ifCond .eq 35, 3) := by decide +kernel
theorem dX9_processIn_12 : decode cX9_processIn 12 = .ok (.aload_n 0, 1) := by decide +kernel
theorem dX9_processIn_13 : decode cX9_processIn 13 = .ok (.iload_n 2, 1) := by decide +kernel
theorem dX9_processIn_14 : decode cX9_processIn 14 = .ok (.invokestatic 207, 3) := by decide +kernel
theorem dX9_processIn_17 : decode cX9_processIn 17 = .ok (.ifCond .eq 19, 3) := by decide +kernel
theorem dX9_processIn_20 : decode cX9_processIn 20 = .ok (.iload_n 3, 1) := by decide +kernel
theorem dX9_processIn_21 : decode cX9_processIn 21 = .ok (.i2l, 1) := by decide +kernel
theorem dX9_processIn_22 : decode cX9_processIn 22 = .ok (.lconst 0, 1) := by decide +kernel
theorem dX9_processIn_23 : decode cX9_processIn 23 = .ok (.ldc2_w 269, 3) := by decide +kernel
theorem dX9_processIn_26 : decode cX9_processIn 26 = .ok (.invokestatic 92, 3) := by decide +kernel
theorem dX9_processIn_29 : decode cX9_processIn 29 = .ok (.ifCond .eq 7, 3) := by decide +kernel
theorem dX9_processIn_32 : decode cX9_processIn 32 = .ok (.iconst 1, 1) := by decide +kernel
theorem dX9_processIn_33 : decode cX9_processIn 33 = .ok (.goto 4, 3) := by decide +kernel
theorem dX9_processIn_36 : decode cX9_processIn 36 = .ok (.iconst 0, 1) := by decide +kernel
theorem dX9_processIn_37 : decode cX9_processIn 37 = .ok (.iconst 2, 1) := by decide +kernel
theorem dX9_processIn_38 : decode cX9_processIn 38 = .ok (.invokevirtual 210, 3) := by decide +kernel
theorem dX9_processIn_41 : decode cX9_processIn 41 = .ok (.ifCond .ne 5, 3) := by decide +kernel
theorem dX9_processIn_44 : decode cX9_processIn 44 = .ok (.iconst 0, 1) := by decide +kernel
theorem dX9_processIn_45 : decode cX9_processIn 45 = .ok (.ireturn, 1) := by decide +kernel
theorem dX9_processIn_46 : decode cX9_processIn 46 = .ok (.aload_n 0, 1) := by decide +kernel
theorem dX9_processIn_47 : decode cX9_processIn 47 = .ok (.invokevirtual 304, 3) := by decide +kernel
theorem dX9_processIn_50 : decode cX9_processIn 50 = .ok (.aload_n 0, 1) := by decide +kernel
theorem dX9_processIn_51 : decode cX9_processIn 51 = .ok (.iload_n 2, 1) := by decide +kernel
theorem dX9_processIn_52 : decode cX9_processIn 52 = .ok (.invokevirtual 217, 3) := by decide +kernel
theorem dX9_processIn_55 : decode cX9_processIn 55 = .ok (.istore 4, 2) := by decide +kernel
theorem dX9_processIn_57 : decode cX9_processIn 57 = .ok (.iload_n 3, 1) := by decide +kernel
theorem dX9_processIn_58 : decode cX9_processIn 58 = .ok (.iconst 2, 1) := by decide +kernel
theorem dX9_processIn_59 : decode cX9_processIn 59 = .ok (.if_icmp .ne 11, 3) := by decide +kernel
theorem dX9_processIn_62 : decode cX9_processIn 62 = .ok (.aload_n 0, 1) := by decide +kernel
theorem dX9_processIn_63 : decode cX9_processIn 63 = .ok (.iload_n 1, 1) := by decide +kernel
theorem dX9_processIn_64 : decode cX9_processIn 64 = .ok (.invokevirtual 283, 3) := by decide +kernel
theorem dX9_processIn_67 : decode cX9_processIn 67 = .ok (.goto 9, 3) := by decide +kernel
theorem dX9_processIn_70 : decode cX9_processIn 70 = .ok (.aload_n 0, 1) := by decide +kernel
theorem dX9_processIn_71 : decode cX9_processIn 71 = .ok (.iload_n 1, 1) := by decide +kernel
theorem dX9_processIn_72 : decode cX9_processIn 72 = .ok (.iload_n 3, 1) := by decide +kernel
theorem dX9_processIn_73 : decode cX9_processIn 73 = .ok (.invokevirtual 120, 3) := by decide +kernel
theorem dX9_processIn_76 : decode cX9_processIn 76 = .ok (.istore 5, 2) := by decide +kernel
theorem dX9_processIn_78 : decode cX9_processIn 78 = .ok (.aload_n 0, 1) := by decide +kernel
theorem dX9_processIn_79 : decode cX9_processIn 79 = .ok (.iload 5, 2) := by decide +kernel
theorem dX9_processIn_81 : decode cX9_processIn 81 = .ok (.invokevirtual 307, 3) := by decide +kernel
theorem dX9_processIn_84 : decode cX9_processIn 84 = .ok (.ireturn, 1) := by decide +kernel
theorem dX9_bestOrder_0 : decode cX9_bestOrder 0 = .ok (.aload_n 0, 1) := by decide +kernel
theorem dX9_bestOrder_1 : decode cX9_bestOrder 1 = .ok (.iload_n 1, 1) := by decide +kernel
theorem dX9_bestOrder_2 : decode cX9_bestOrder 2 = .ok (.invokestatic 207, 3) := by decide +kernel
theorem dX9_bestOrder_5 : decode cX9_bestOrder 5 = .ok (.invokevirtual 77, 3) := by decide +kernel
theorem dX9_bestOrder_8 : decode cX9_bestOrder 8 = .ok (.ifCond .ne 5, 3) := by decide +kernel
theorem dX9_bestOrder_11 : decode cX9_bestOrder 11 = .ok (.iconst 0, 1) := by decide +kernel
theorem dX9_bestOrder_12 : decode cX9_bestOrder 12 = .ok (.ireturn, 1) := by decide +kernel
theorem dX9_bestOrder_13 : decode cX9_bestOrder 13 = .ok (.iconst 0, 1) := by decide +kernel
theorem dX9_bestOrder_14 : decode cX9_bestOrder 14 = .ok (.istore_n 2, 1) := by decide +kernel
theorem dX9_bestOrder_15 : decode cX9_bestOrder 15 = .ok (.iconst (-1), 1) := by decide +kernel
theorem dX9_bestOrder_16 : decode cX9_bestOrder 16 = .ok (.istore_n 3, 1) := by decide +kernel
theorem dX9_bestOrder_17 : decode cX9_bestOrder 17 = .ok (.iconst 0, 1) := by decide +kernel
theorem dX9_bestOrder_18 : decode cX9_bestOrder 18 = .ok (.istore 4, 2) := by decide +kernel
theorem dX9_bestOrder_20 : decode cX9_bestOrder 20 = .ok (.iload 4, 2) := by decide +kernel
theorem dX9_bestOrder_22 : decode cX9_bestOrder 22 = .ok (.iconst 2, 1) := by decide +kernel
theorem dX9_bestOrder_23 : decode cX9_bestOrder 23 = .ok (.if_icmp .gt 47, 3) := by decide +kernel
theorem dX9_bestOrder_26 : decode cX9_bestOrder 26 = .ok (.aload_n 0, 1) := by decide +kernel
theorem dX9_bestOrder_27 : decode cX9_bestOrder 27 = .ok (.invokevirtual 304, 3) := by decide +kernel
theorem dX9_bestOrder_30 : decode cX9_bestOrder 30 = .ok (.aload_n 0, 1) := by decide +kernel
theorem dX9_bestOrder_31 : decode cX9_bestOrder 31 = .ok (.getfield 13, 3) := by decide +kernel
theorem dX9_bestOrder_34 : decode cX9_bestOrder 34 = .ok (.iconst 1, 1) := by decide +kernel
theorem dX9_bestOrder_35 : decode cX9_bestOrder 35 = .ok (.iload 4, 2) := by decide +kernel
theorem dX9_bestOrder_37 : decode cX9_bestOrder 37 = .ok (.iastore, 1) := by decide +kernel
theorem dX9_bestOrder_38 : decode cX9_bestOrder 38 = .ok (.aload_n 0, 1) := by decide +kernel
theorem dX9_bestOrder_39 : decode cX9_bestOrder 39 = .ok (.aload_n 0, 1) := by decide +kernel
theorem dX9_bestOrder_40 : decode cX9_bestOrder 40 = .ok (.iload_n 1, 1) := by decide +kernel
theorem dX9_bestOrder_41 : decode cX9_bestOrder 41 = .ok (.invokevirtual 217, 3) := by decide +kernel
theorem dX9_bestOrder_44 : decode cX9_bestOrder 44 = .ok (.invokevirtual 307, 3) := by decide +kernel
theorem dX9_bestOrder_47 : decode cX9_bestOrder 47 = .ok (.istore 5, 2) := by decide +kernel
theorem dX9_bestOrder_49 : decode cX9_bestOrder 49 = .ok (.iload 5, 2) := by decide +kernel
theorem dX9_bestOrder_51 : decode cX9_bestOrder 51 = .ok (.iload_n 3, 1) := by decide +kernel
theorem dX9_bestOrder_52 : decode cX9_bestOrder 52 = .ok (.if_icmp .gt 6, 3) := by decide +kernel
theorem dX9_bestOrder_55 : decode cX9_bestOrder 55 = .ok (.goto 9, 3) := by decide +kernel
theorem dX9_bestOrder_58 : decode cX9_bestOrder 58 = .ok (.iload 4, 2) := by decide +kernel
theorem dX9_bestOrder_60 : decode cX9_bestOrder 60 = .ok (.istore_n 2, 1) := by decide +kernel
theorem dX9_bestOrder_61 : decode cX9_bestOrder 61 = .ok (.iload 5, 2) := by decide +kernel
theorem dX9_bestOrder_63 : decode cX9_bestOrder 63 = .ok (.istore_n 3, 1) := by decide +kernel
theorem dX9_bestOrder_64 : decode cX9_bestOrder 64 = .ok (.iinc 4 1, 3) := by decide +kernel
theorem dX9_bestOrder_67 : decode cX9_bestOrder 67 = .ok (.goto (-47), 3) := by decide +kernel
theorem dX9_bestOrder_70 : decode cX9_bestOrder 70 = .ok (.iload_n 2, 1) := by decide +kernel
theorem dX9_bestOrder_71 : decode cX9_bestOrder 71 = .ok (.ireturn, 1) := by decide +kernel
theorem dX9_doesHelp_0 : decode cX9_doesHelp 0 = .ok (.aload_n 0, 1) := by decide +kernel
theorem dX9_doesHelp_1 : decode cX9_doesHelp 1 = .ok (.invokevirtual 304, 3) := by decide +kernel
theorem dX9_doesHelp_4 : decode cX9_doesHelp 4 = .ok (.aload_n 0, 1) := by decide +kernel
theorem dX9_doesHelp_5 : decode cX9_doesHelp 5 = .ok (.iload_n 1, 1) := by decide +kernel
theorem dX9_doesHelp_6 : decode cX9_doesHelp 6 = .ok (.iload_n 2, 1) := by decide +kernel
theorem dX9_doesHelp_7 : decode cX9_doesHelp 7 = .ok (.invokevirtual 155, 3) := by decide +kernel
theorem dX9_doesHelp_10 : decode cX9_doesHelp 10 = .ok (.aload_n 0, 1) := by decide +kernel
theorem dX9_doesHelp_11 : decode cX9_doesHelp 11 = .ok (.aload_n 0, 1) := by decide +kernel
theorem dX9_doesHelp_12 : decode cX9_doesHelp 12 = .ok (.invokevirtual 297, 3) := by decide +kernel
theorem dX9_doesHelp_15 : decode cX9_doesHelp 15 = .ok (.aload_n 0, 1) := by decide +kernel
theorem dX9_doesHelp_16 : decode cX9_doesHelp 16 = .ok (.getfield 13, 3) := by decide +kernel
theorem dX9_doesHelp_19 : decode cX9_doesHelp 19 = .ok (.iconst 0, 1) := by decide +kernel
theorem dX9_doesHelp_20 : decode cX9_doesHelp 20 = .ok (.iaload, 1) := by decide +kernel
theorem dX9_doesHelp_21 : decode cX9_doesHelp 21 = .ok (.isub, 1) := by decide +kernel
theorem dX9_doesHelp_22 : decode cX9_doesHelp 22 = .ok (.invokevirtual 217, 3) := by decide +kernel
theorem dX9_doesHelp_25 : decode cX9_doesHelp 25 = .ok (.istore 4, 2) := by decide +kernel
theorem dX9_doesHelp_27 : decode cX9_doesHelp 27 = .ok (.aload_n 0, 1) := by decide +kernel
theorem dX9_doesHelp_28 : decode cX9_doesHelp 28 = .ok (.iload_n 3, 1) := by decide +kernel
theorem dX9_doesHelp_29 : decode cX9_doesHelp 29 = .ok (.iconst 3, 1) := by decide +kernel
theorem dX9_doesHelp_30 : decode cX9_doesHelp 30 = .ok (.invokevirtual 139, 3) := by decide +kernel
theorem dX9_doesHelp_33 : decode cX9_doesHelp 33 = .ok (.iconst 1, 1) := by decide +kernel
theorem dX9_doesHelp_34 : decode cX9_doesHelp 34 = .ok (.if_icmp .ne 7, 3) := by decide +kernel
theorem dX9_doesHelp_37 : decode cX9_doesHelp 37 = .ok (.iconst 1, 1) := by decide +kernel
theorem dX9_doesHelp_38 : decode cX9_doesHelp 38 = .ok (.goto 4, 3) := by decide +kernel
theorem dX9_doesHelp_41 : decode cX9_doesHelp 41 = .ok (.iconst 0, 1) := by decide +kernel
theorem dX9_doesHelp_42 : decode cX9_doesHelp 42 = .ok (.istore 5, 2) := by decide +kernel
theorem dX9_doesHelp_44 : decode cX9_doesHelp 44 = .ok (.aload_n 0, 1) := by decide +kernel
theorem dX9_doesHelp_45 : decode cX9_doesHelp 45 = .ok (.getfield 23, 3) := by decide +kernel
theorem dX9_doesHelp_48 : decode cX9_doesHelp 48 = .ok (.aload_n 0, 1) := by decide +kernel
theorem dX9_doesHelp_49 : decode cX9_doesHelp 49 = .ok (.getfield 13, 3) := by decide +kernel
theorem dX9_doesHelp_52 : decode cX9_doesHelp 52 = .ok (.invokestatic 70, 3) := by decide +kernel
theorem dX9_doesHelp_55 : decode cX9_doesHelp 55 = .ok (.iload 5, 2) := by decide +kernel
theorem dX9_doesHelp_57 : decode cX9_doesHelp 57 = .ok (.ireturn, 1) := by decide +kernel
theorem dX9_helps_0 : decode cX9_helps 0 = .ok (.aload_n 0, 1) := by decide +kernel
theorem dX9_helps_1 : decode cX9_helps 1 = .ok (.aload_n 0, 1) := by decide +kernel
theorem dX9_helps_2 : decode cX9_helps 2 = .ok (.iload_n 1, 1) := by decide +kernel
theorem dX9_helps_3 : decode cX9_helps 3 = .ok (.invokevirtual 235, 3) := by decide +kernel
theorem dX9_helps_6 : decode cX9_helps 6 = .ok (.ifCond .eq 15, 3) := by decide +kernel
theorem dX9_helps_9 : decode cX9_helps 9 = .ok (.aload_n 0, 1) := by decide +kernel
theorem dX9_helps_10 : decode cX9_helps 10 = .ok (.iload_n 2, 1) := by decide +kernel
theorem dX9_helps_11 : decode cX9_helps 11 = .ok (.invokevirtual 232, 3) := by decide +kernel
theorem dX9_helps_14 : decode cX9_helps 14 = .ok (.ifCond .eq 7, 3) := by decide +kernel
theorem dX9_helps_17 : decode cX9_helps 17 = .ok (.iconst 1, 1) := by decide +kernel
theorem dX9_helps_18 : decode cX9_helps 18 = .ok (.goto 4, 3) := by decide +kernel
theorem dX9_helps_21 : decode cX9_helps 21 = .ok (.iconst 0, 1) := by decide +kernel
theorem dX9_helps_22 : decode cX9_helps 22 = .ok (.invokevirtual 77, 3) := by decide +kernel
theorem dX9_helps_25 : decode cX9_helps 25 = .ok (.ifCond .ne 5, 3) := by decide +kernel
theorem dX9_helps_28 : decode cX9_helps 28 = .ok (.iconst 0, 1) := by decide +kernel
theorem dX9_helps_29 : decode cX9_helps 29 = .ok (.ireturn, 1) := by decide +kernel
theorem dX9_helps_30 : decode cX9_helps 30 = .ok (.aload_n 0, 1) := by decide +kernel
theorem dX9_helps_31 : decode cX9_helps 31 = .ok (.iload_n 2, 1) := by decide +kernel
theorem dX9_helps_32 : decode cX9_helps 32 = .ok (.invokevirtual 142, 3) := by decide +kernel
theorem dX9_helps_35 : decode cX9_helps 35 = .ok (.ifCond .eq 11, 3) := by decide +kernel
theorem dX9_helps_38 : decode cX9_helps 38 = .ok (.aload_n 0, 1) := by decide +kernel
theorem dX9_helps_39 : decode cX9_helps 39 = .ok (.invokevirtual 297, 3) := by decide +kernel
theorem dX9_helps_42 : decode cX9_helps 42 = .ok (.iconst (-1), 1) := by decide +kernel
theorem dX9_helps_43 : decode cX9_helps 43 = .ok (.if_icmp .ne 5, 3) := by decide +kernel
theorem dX9_helps_46 : decode cX9_helps 46 = .ok (.iconst (-1), 1) := by decide +kernel
theorem dX9_helps_47 : decode cX9_helps 47 = .ok (.ireturn, 1) := by decide +kernel
theorem dX9_helps_48 : decode cX9_helps 48 = .ok (.aload_n 0, 1) := by decide +kernel
theorem dX9_helps_49 : decode cX9_helps 49 = .ok (.iload_n 1, 1) := by decide +kernel
theorem dX9_helps_50 : decode cX9_helps 50 = .ok (.invokevirtual 103, 3) := by decide +kernel
theorem dX9_helps_53 : decode cX9_helps 53 = .ok (.istore_n 3, 1) := by decide +kernel
theorem dX9_helps_54 : decode cX9_helps 54 = .ok (.iconst 0, 1) := by decide +kernel
theorem dX9_helps_55 : decode cX9_helps 55 = .ok (.istore 4, 2) := by decide +kernel
theorem dX9_helps_57 : decode cX9_helps 57 = .ok (.iload 4, 2) := by decide +kernel
theorem dX9_helps_59 : decode cX9_helps 59 = .ok (.iload_n 3, 1) := by decide +kernel
theorem dX9_helps_60 : decode cX9_helps 60 = .ok (.if_icmp .gt 23, 3) := by decide +kernel
theorem dX9_helps_63 : decode cX9_helps 63 = .ok (.aload_n 0, 1) := by decide +kernel
theorem dX9_helps_64 : decode cX9_helps 64 = .ok (.iload_n 1, 1) := by decide +kernel
theorem dX9_helps_65 : decode cX9_helps 65 = .ok (.iload 4, 2) := by decide +kernel
theorem dX9_helps_67 : decode cX9_helps 67 = .ok (.iload_n 2, 1) := by decide +kernel
theorem dX9_helps_68 : decode cX9_helps 68 = .ok (.invokevirtual 310, 3) := by decide +kernel
theorem dX9_helps_71 : decode cX9_helps 71 = .ok (.ifCond .eq 6, 3) := by decide +kernel
theorem dX9_helps_74 : decode cX9_helps 74 = .ok (.iload 4, 2) := by decide +kernel
theorem dX9_helps_76 : decode cX9_helps 76 = .ok (.ireturn, 1) := by decide +kernel
theorem dX9_helps_77 : decode cX9_helps 77 = .ok (.iinc 4 1, 3) := by decide +kernel
theorem dX9_helps_80 : decode cX9_helps 80 = .ok (.goto (-23), 3) := by decide +kernel
theorem dX9_helps_83 : decode cX9_helps 83 = .ok (.iconst (-1), 1) := by decide +kernel
theorem dX9_helps_84 : decode cX9_helps 84 = .ok (.ireturn, 1) := by decide +kernel
theorem dX9_wouldAppeal_0 : decode cX9_wouldAppeal 0 = .ok (.aload_n 0, 1) := by decide +kernel
theorem dX9_wouldAppeal_1 : decode cX9_wouldAppeal 1 = .ok (.aload_n 0, 1) := by decide +kernel
theorem dX9_wouldAppeal_2 : decode cX9_wouldAppeal 2 = .ok (.iload_n 1, 1) := by decide +kernel
theorem dX9_wouldAppeal_3 : decode cX9_wouldAppeal 3 = .ok (.invokevirtual 260, 3) := by decide +kernel
theorem dX9_wouldAppeal_6 : decode cX9_wouldAppeal 6 = .ok (.invokevirtual 77, 3) := by decide +kernel
theorem dX9_wouldAppeal_9 : decode cX9_wouldAppeal 9 = .ok (.ifCond .ne 5, 3) := by decide +kernel
theorem dX9_wouldAppeal_12 : decode cX9_wouldAppeal 12 = .ok (.iconst 0, 1) := by decide +kernel
theorem dX9_wouldAppeal_13 : decode cX9_wouldAppeal 13 = .ok (.ireturn, 1) := by decide +kernel
theorem dX9_wouldAppeal_14 : decode cX9_wouldAppeal 14 = .ok (.aload_n 0, 1) := by decide +kernel
theorem dX9_wouldAppeal_15 : decode cX9_wouldAppeal 15 = .ok (.iload_n 1, 1) := by decide +kernel
theorem dX9_wouldAppeal_16 : decode cX9_wouldAppeal 16 = .ok (.invokevirtual 263, 3) := by decide +kernel
theorem dX9_wouldAppeal_19 : decode cX9_wouldAppeal 19 = .ok (.ifCond .eq 11, 3) := by decide +kernel
theorem dX9_wouldAppeal_22 : decode cX9_wouldAppeal 22 = .ok (.aload_n 0, 1) := by decide +kernel
theorem dX9_wouldAppeal_23 : decode cX9_wouldAppeal 23 = .ok (.iload_n 1, 1) := by decide +kernel
theorem dX9_wouldAppeal_24 : decode cX9_wouldAppeal 24 = .ok (.invokevirtual 266, 3) := by decide +kernel
theorem dX9_wouldAppeal_27 : decode cX9_wouldAppeal 27 = .ok (.goto 4, 3) := by decide +kernel
theorem dX9_wouldAppeal_30 : decode cX9_wouldAppeal 30 = .ok (.iconst (-1), 1) := by decide +kernel
theorem dX9_wouldAppeal_31 : decode cX9_wouldAppeal 31 = .ok (.ireturn, 1) := by decide +kernel
theorem dX9_clears_0 : decode cX9_clears 0 = .ok (.aload_n 0, 1) := by decide +kernel
theorem dX9_clears_1 : decode cX9_clears 1 = .ok (.iconst 0, 1) := by decide +kernel
theorem dX9_clears_2 : decode cX9_clears 2 = .ok (.putfield 61, 3) := by decide +kernel
theorem dX9_clears_5 : decode cX9_clears 5 = .ok (.aload_n 0, 1) := by decide +kernel
theorem dX9_clears_6 : decode cX9_clears 6 = .ok (.iconst 0, 1) := by decide +kernel
theorem dX9_clears_7 : decode cX9_clears 7 = .ok (.putfield 314, 3) := by decide +kernel
theorem dX9_clears_10 : decode cX9_clears 10 = .ok (.aload_n 0, 1) := by decide +kernel
theorem dX9_clears_11 : decode cX9_clears 11 = .ok (.iconst 0, 1) := by decide +kernel
theorem dX9_clears_12 : decode cX9_clears 12 = .ok (.putfield 317, 3) := by decide +kernel
theorem dX9_clears_15 : decode cX9_clears 15 = .ok (.aload_n 0, 1) := by decide +kernel
theorem dX9_clears_16 : decode cX9_clears 16 = .ok (.iconst 0, 1) := by decide +kernel
theorem dX9_clears_17 : decode cX9_clears 17 = .ok (.putfield 320, 3) := by decide +kernel
theorem dX9_clears_20 : decode cX9_clears 20 = .ok (.aload_n 0, 1) := by decide +kernel
theorem dX9_clears_21 : decode cX9_clears 21 = .ok (.getfield 49, 3) := by decide +kernel
theorem dX9_clears_24 : decode cX9_clears 24 = .ok (.iconst 0, 1) := by decide +kernel
theorem dX9_clears_25 : decode cX9_clears 25 = .ok (.iconst 5, 1) := by decide +kernel
theorem dX9_clears_26 : decode cX9_clears 26 = .ok (.iastore, 1) := by decide +kernel
theorem dX9_clears_27 : decode cX9_clears 27 = .ok (.aload_n 0, 1) := by decide +kernel
theorem dX9_clears_28 : decode cX9_clears 28 = .ok (.getfield 49, 3) := by decide +kernel
theorem dX9_clears_31 : decode cX9_clears 31 = .ok (.iconst 1, 1) := by decide +kernel
theorem dX9_clears_32 : decode cX9_clears 32 = .ok (.bipush 10, 2) := by decide +kernel
theorem dX9_clears_34 : decode cX9_clears 34 = .ok (.iastore, 1) := by decide +kernel
theorem dX9_clears_35 : decode cX9_clears 35 = .ok (.aload_n 0, 1) := by decide +kernel
theorem dX9_clears_36 : decode cX9_clears 36 = .ok (.getfield 49, 3) := by decide +kernel
theorem dX9_clears_39 : decode cX9_clears 39 = .ok (.iconst 2, 1) := by decide +kernel
theorem dX9_clears_40 : decode cX9_clears 40 = .ok (.bipush 20, 2) := by decide +kernel
theorem dX9_clears_42 : decode cX9_clears 42 = .ok (.iastore, 1) := by decide +kernel
theorem dX9_clears_43 : decode cX9_clears 43 = .ok (.aload_n 0, 1) := by decide +kernel
theorem dX9_clears_44 : decode cX9_clears 44 = .ok (.getfield 49, 3) := by decide +kernel
theorem dX9_clears_47 : decode cX9_clears 47 = .ok (.iconst 3, 1) := by decide +kernel
theorem dX9_clears_48 : decode cX9_clears 48 = .ok (.iconst 3, 1) := by decide +kernel
theorem dX9_clears_49 : decode cX9_clears 49 = .ok (.iastore, 1) := by decide +kernel
theorem dX9_clears_50 : decode cX9_clears 50 = .ok (.aload_n 0, 1) := by decide +kernel
theorem dX9_clears_51 : decode cX9_clears 51 = .ok (.getfield 49, 3) := by decide +kernel
theorem dX9_clears_54 : decode cX9_clears 54 = .ok (.iconst 4, 1) := by decide +kernel
theorem dX9_clears_55 : decode cX9_clears 55 = .ok (.bipush 10, 2) := by decide +kernel
theorem dX9_clears_57 : decode cX9_clears 57 = .ok (.iastore, 1) := by decide +kernel
theorem dX9_clears_58 : decode cX9_clears 58 = .ok (.iconst 0, 1) := by decide +kernel
theorem dX9_clears_59 : decode cX9_clears 59 = .ok (.istore_n 1, 1) := by decide +kernel
theorem dX9_clears_60 : decode cX9_clears 60 = .ok (.iload_n 1, 1) := by decide +kernel
theorem dX9_clears_61 : decode cX9_clears 61 = .ok (.sipush 1846, 3) := by decide +kernel
theorem dX9_clears_64 : decode cX9_clears 64 = .ok (.if_icmp .ge 34, 3) := by decide +kernel
theorem dX9_clears_67 : decode cX9_clears 67 = .ok (.aload_n 0, 1) := by decide +kernel
theorem dX9_clears_68 : decode cX9_clears 68 = .ok (.getfield 17, 3) := by decide +kernel
theorem dX9_clears_71 : decode cX9_clears 71 = .ok (.iload_n 1, 1) := by decide +kernel
theorem dX9_clears_72 : decode cX9_clears 72 = .ok (.iload_n 1, 1) := by decide +kernel
theorem dX9_clears_73 : decode cX9_clears 73 = .ok (.i2l, 1) := by decide +kernel
theorem dX9_clears_74 : decode cX9_clears 74 = .ok (.ldc2_w 323, 3) := by decide +kernel
theorem dX9_clears_77 : decode cX9_clears 77 = .ok (.ldc2_w 325, 3) := by decide +kernel
theorem dX9_clears_80 : decode cX9_clears 80 = .ok (.invokestatic 92, 3) := by decide +kernel
theorem dX9_clears_83 : decode cX9_clears 83 = .ok (.ifCond .eq 7, 3) := by decide +kernel
theorem dX9_clears_86 : decode cX9_clears 86 = .ok (.iconst (-1), 1) := by decide +kernel
theorem dX9_clears_87 : decode cX9_clears 87 = .ok (.goto 4, 3) := by decide +kernel
theorem dX9_clears_90 : decode cX9_clears 90 = .ok (.iconst 0, 1) := by decide +kernel
theorem dX9_clears_91 : decode cX9_clears 91 = .ok (.iastore, 1) := by decide +kernel
theorem dX9_clears_92 : decode cX9_clears 92 = .ok (.iinc 1 1, 3) := by decide +kernel
theorem dX9_clears_95 : decode cX9_clears 95 = .ok (.goto (-35), 3) := by decide +kernel
theorem dX9_clears_98 : decode cX9_clears 98 = .ok (.return_, 1) := by decide +kernel
theorem dX9_takesDraft_0 : decode cX9_takesDraft 0 = .ok (.aload_n 0, 1) := by decide +kernel
theorem dX9_takesDraft_1 : decode cX9_takesDraft 1 = .ok (.aload_n 0, 1) := by decide +kernel
theorem dX9_takesDraft_2 : decode cX9_takesDraft 2 = .ok (.getfield 61, 3) := by decide +kernel
theorem dX9_takesDraft_5 : decode cX9_takesDraft 5 = .ok (.putfield 100, 3) := by decide +kernel
theorem dX9_takesDraft_8 : decode cX9_takesDraft 8 = .ok (.aload_n 0, 1) := by decide +kernel
theorem dX9_takesDraft_9 : decode cX9_takesDraft 9 = .ok (.aload_n 0, 1) := by decide +kernel
theorem dX9_takesDraft_10 : decode cX9_takesDraft 10 = .ok (.getfield 314, 3) := by decide +kernel
theorem dX9_takesDraft_13 : decode cX9_takesDraft 13 = .ok (.putfield 89, 3) := by decide +kernel
theorem dX9_takesDraft_16 : decode cX9_takesDraft 16 = .ok (.aload_n 0, 1) := by decide +kernel
theorem dX9_takesDraft_17 : decode cX9_takesDraft 17 = .ok (.aload_n 0, 1) := by decide +kernel
theorem dX9_takesDraft_18 : decode cX9_takesDraft 18 = .ok (.getfield 49, 3) := by decide +kernel
theorem dX9_takesDraft_21 : decode cX9_takesDraft 21 = .ok (.iconst 0, 1) := by decide +kernel
theorem dX9_takesDraft_22 : decode cX9_takesDraft 22 = .ok (.iaload, 1) := by decide +kernel
theorem dX9_takesDraft_23 : decode cX9_takesDraft 23 = .ok (.putfield 193, 3) := by decide +kernel
theorem dX9_takesDraft_26 : decode cX9_takesDraft 26 = .ok (.aload_n 0, 1) := by decide +kernel
theorem dX9_takesDraft_27 : decode cX9_takesDraft 27 = .ok (.aload_n 0, 1) := by decide +kernel
theorem dX9_takesDraft_28 : decode cX9_takesDraft 28 = .ok (.getfield 49, 3) := by decide +kernel
theorem dX9_takesDraft_31 : decode cX9_takesDraft 31 = .ok (.iconst 1, 1) := by decide +kernel
theorem dX9_takesDraft_32 : decode cX9_takesDraft 32 = .ok (.iaload, 1) := by decide +kernel
theorem dX9_takesDraft_33 : decode cX9_takesDraft 33 = .ok (.putfield 117, 3) := by decide +kernel
theorem dX9_takesDraft_36 : decode cX9_takesDraft 36 = .ok (.aload_n 0, 1) := by decide +kernel
theorem dX9_takesDraft_37 : decode cX9_takesDraft 37 = .ok (.aload_n 0, 1) := by decide +kernel
theorem dX9_takesDraft_38 : decode cX9_takesDraft 38 = .ok (.getfield 49, 3) := by decide +kernel
theorem dX9_takesDraft_41 : decode cX9_takesDraft 41 = .ok (.iconst 2, 1) := by decide +kernel
theorem dX9_takesDraft_42 : decode cX9_takesDraft 42 = .ok (.iaload, 1) := by decide +kernel
theorem dX9_takesDraft_43 : decode cX9_takesDraft 43 = .ok (.putfield 190, 3) := by decide +kernel
theorem dX9_takesDraft_46 : decode cX9_takesDraft 46 = .ok (.aload_n 0, 1) := by decide +kernel
theorem dX9_takesDraft_47 : decode cX9_takesDraft 47 = .ok (.aload_n 0, 1) := by decide +kernel
theorem dX9_takesDraft_48 : decode cX9_takesDraft 48 = .ok (.getfield 49, 3) := by decide +kernel
theorem dX9_takesDraft_51 : decode cX9_takesDraft 51 = .ok (.iconst 3, 1) := by decide +kernel
theorem dX9_takesDraft_52 : decode cX9_takesDraft 52 = .ok (.iaload, 1) := by decide +kernel
theorem dX9_takesDraft_53 : decode cX9_takesDraft 53 = .ok (.putfield 148, 3) := by decide +kernel
theorem dX9_takesDraft_56 : decode cX9_takesDraft 56 = .ok (.aload_n 0, 1) := by decide +kernel
theorem dX9_takesDraft_57 : decode cX9_takesDraft 57 = .ok (.aload_n 0, 1) := by decide +kernel
theorem dX9_takesDraft_58 : decode cX9_takesDraft 58 = .ok (.getfield 49, 3) := by decide +kernel
theorem dX9_takesDraft_61 : decode cX9_takesDraft 61 = .ok (.iconst 4, 1) := by decide +kernel
theorem dX9_takesDraft_62 : decode cX9_takesDraft 62 = .ok (.iaload, 1) := by decide +kernel
theorem dX9_takesDraft_63 : decode cX9_takesDraft 63 = .ok (.putfield 251, 3) := by decide +kernel
theorem dX9_takesDraft_66 : decode cX9_takesDraft 66 = .ok (.iconst 0, 1) := by decide +kernel
theorem dX9_takesDraft_67 : decode cX9_takesDraft 67 = .ok (.istore_n 1, 1) := by decide +kernel
theorem dX9_takesDraft_68 : decode cX9_takesDraft 68 = .ok (.iload_n 1, 1) := by decide +kernel
theorem dX9_takesDraft_69 : decode cX9_takesDraft 69 = .ok (.aload_n 0, 1) := by decide +kernel
theorem dX9_takesDraft_70 : decode cX9_takesDraft 70 = .ok (.getfield 89, 3) := by decide +kernel
theorem dX9_takesDraft_73 : decode cX9_takesDraft 73 = .ok (.if_icmp .ge 21, 3) := by decide +kernel
theorem dX9_takesDraft_76 : decode cX9_takesDraft 76 = .ok (.aload_n 0, 1) := by decide +kernel
theorem dX9_takesDraft_77 : decode cX9_takesDraft 77 = .ok (.getfield 7, 3) := by decide +kernel
theorem dX9_takesDraft_80 : decode cX9_takesDraft 80 = .ok (.iload_n 1, 1) := by decide +kernel
theorem dX9_takesDraft_81 : decode cX9_takesDraft 81 = .ok (.aload_n 0, 1) := by decide +kernel
theorem dX9_takesDraft_82 : decode cX9_takesDraft 82 = .ok (.getfield 52, 3) := by decide +kernel
theorem dX9_takesDraft_85 : decode cX9_takesDraft 85 = .ok (.iload_n 1, 1) := by decide +kernel
theorem dX9_takesDraft_86 : decode cX9_takesDraft 86 = .ok (.laload, 1) := by decide +kernel
theorem dX9_takesDraft_87 : decode cX9_takesDraft 87 = .ok (.lastore, 1) := by decide +kernel
theorem dX9_takesDraft_88 : decode cX9_takesDraft 88 = .ok (.iinc 1 1, 3) := by decide +kernel
theorem dX9_takesDraft_91 : decode cX9_takesDraft 91 = .ok (.goto (-23), 3) := by decide +kernel
theorem dX9_takesDraft_94 : decode cX9_takesDraft 94 = .ok (.aload_n 0, 1) := by decide +kernel
theorem dX9_takesDraft_95 : decode cX9_takesDraft 95 = .ok (.getfield 17, 3) := by decide +kernel
theorem dX9_takesDraft_98 : decode cX9_takesDraft 98 = .ok (.aload_n 0, 1) := by decide +kernel
theorem dX9_takesDraft_99 : decode cX9_takesDraft 99 = .ok (.getfield 13, 3) := by decide +kernel
theorem dX9_takesDraft_102 : decode cX9_takesDraft 102 = .ok (.invokestatic 70, 3) := by decide +kernel
theorem dX9_takesDraft_105 : decode cX9_takesDraft 105 = .ok (.aload_n 0, 1) := by decide +kernel
theorem dX9_takesDraft_106 : decode cX9_takesDraft 106 = .ok (.iconst 0, 1) := by decide +kernel
theorem dX9_takesDraft_107 : decode cX9_takesDraft 107 = .ok (.putfield 74, 3) := by decide +kernel
theorem dX9_takesDraft_110 : decode cX9_takesDraft 110 = .ok (.aload_n 0, 1) := by decide +kernel
theorem dX9_takesDraft_111 : decode cX9_takesDraft 111 = .ok (.iconst 0, 1) := by decide +kernel
theorem dX9_takesDraft_112 : decode cX9_takesDraft 112 = .ok (.putfield 81, 3) := by decide +kernel
theorem dX9_takesDraft_115 : decode cX9_takesDraft 115 = .ok (.return_, 1) := by decide +kernel
theorem dX9_feed_0 : decode cX9_feed 0 = .ok (.aload_n 0, 1) := by decide +kernel
theorem dX9_feed_1 : decode cX9_feed 1 = .ok (.iconst 0, 1) := by decide +kernel
theorem dX9_feed_2 : decode cX9_feed 2 = .ok (.putfield 67, 3) := by decide +kernel
theorem dX9_feed_5 : decode cX9_feed 5 = .ok (.aload_n 0, 1) := by decide +kernel
theorem dX9_feed_6 : decode cX9_feed 6 = .ok (.getfield 327, 3) := by decide +kernel
theorem dX9_feed_9 : decode cX9_feed 9 = .ok (.bipush 20, 2) := by decide +kernel
theorem dX9_feed_11 : decode cX9_feed 11 = .ok (.iadd, 1) := by decide +kernel
theorem dX9_feed_12 : decode cX9_feed 12 = .ok (.sipush 600, 3) := by decide +kernel
theorem dX9_feed_15 : decode cX9_feed 15 = .ok (.if_icmp .le 5, 3) := by decide +kernel
theorem dX9_feed_18 : decode cX9_feed 18 = .ok (.iconst (-1), 1) := by decide +kernel
theorem dX9_feed_19 : decode cX9_feed 19 = .ok (.ireturn, 1) := by decide +kernel
theorem dX9_feed_20 : decode cX9_feed 20 = .ok (.iconst 0, 1) := by decide +kernel
theorem dX9_feed_21 : decode cX9_feed 21 = .ok (.istore 6, 2) := by decide +kernel
theorem dX9_feed_23 : decode cX9_feed 23 = .ok (.iload 6, 2) := by decide +kernel
theorem dX9_feed_25 : decode cX9_feed 25 = .ok (.bipush 20, 2) := by decide +kernel
theorem dX9_feed_27 : decode cX9_feed 27 = .ok (.if_icmp .ge 90, 3) := by decide +kernel
theorem dX9_feed_30 : decode cX9_feed 30 = .ok (.iload 6, 2) := by decide +kernel
theorem dX9_feed_32 : decode cX9_feed 32 = .ok (.iconst 4, 1) := by decide +kernel
theorem dX9_feed_33 : decode cX9_feed 33 = .ok (.if_icmp .ge 7, 3) := by decide +kernel
theorem dX9_feed_36 : decode cX9_feed 36 = .ok (.iload_n 1, 1) := by decide +kernel
theorem dX9_feed_37 : decode cX9_feed 37 = .ok (.goto 39, 3) := by decide +kernel
theorem dX9_feed_40 : decode cX9_feed 40 = .ok (.iload 6, 2) := by decide +kernel
theorem dX9_feed_42 : decode cX9_feed 42 = .ok (.bipush 8, 2) := by decide +kernel
theorem dX9_feed_44 : decode cX9_feed 44 = .ok (.if_icmp .ge 7, 3) := by decide +kernel
theorem dX9_feed_47 : decode cX9_feed 47 = .ok (.iload_n 2, 1) := by decide +kernel
theorem dX9_feed_48 : decode cX9_feed 48 = .ok (.goto 28, 3) := by decide +kernel
theorem dX9_feed_51 : decode cX9_feed 51 = .ok (.iload 6, 2) := by decide +kernel
theorem dX9_feed_53 : decode cX9_feed 53 = .ok (.bipush 12, 2) := by decide +kernel
theorem dX9_feed_55 : decode cX9_feed 55 = .ok (.if_icmp .ge 7, 3) := by decide +kernel
theorem dX9_feed_58 : decode cX9_feed 58 = .ok (.iload_n 3, 1) := by decide +kernel
theorem dX9_feed_59 : decode cX9_feed 59 = .ok (.goto 17, 3) := by decide +kernel
theorem dX9_feed_62 : decode cX9_feed 62 = .ok (.iload 6, 2) := by decide +kernel
theorem dX9_feed_64 : decode cX9_feed 64 = .ok (.bipush 16, 2) := by decide +kernel
theorem dX9_feed_66 : decode cX9_feed 66 = .ok (.if_icmp .ge 8, 3) := by decide +kernel
theorem dX9_feed_69 : decode cX9_feed 69 = .ok (.iload 4, 2) := by decide +kernel
theorem dX9_feed_71 : decode cX9_feed 71 = .ok (.goto 5, 3) := by decide +kernel
theorem dX9_feed_74 : decode cX9_feed 74 = .ok (.iload 5, 2) := by decide +kernel
theorem dX9_feed_76 : decode cX9_feed 76 = .ok (.istore 7, 2) := by decide +kernel
theorem dX9_feed_78 : decode cX9_feed 78 = .ok (.aload_n 0, 1) := by decide +kernel
theorem dX9_feed_79 : decode cX9_feed 79 = .ok (.getfield 42, 3) := by decide +kernel
theorem dX9_feed_82 : decode cX9_feed 82 = .ok (.aload_n 0, 1) := by decide +kernel
theorem dX9_feed_83 : decode cX9_feed 83 = .ok (.getfield 327, 3) := by decide +kernel
theorem dX9_feed_86 : decode cX9_feed 86 = .ok (.iload 7, 2) := by decide +kernel
theorem dX9_feed_88 : decode cX9_feed 88 = .ok (.bipush 24, 2) := by decide +kernel
theorem dX9_feed_90 : decode cX9_feed 90 = .ok (.bipush 8, 2) := by decide +kernel
theorem dX9_feed_92 : decode cX9_feed 92 = .ok (.iload 6, 2) := by decide +kernel
theorem dX9_feed_94 : decode cX9_feed 94 = .ok (.iconst 4, 1) := by decide +kernel
theorem dX9_feed_95 : decode cX9_feed 95 = .ok (.irem, 1) := by decide +kernel
theorem dX9_feed_96 : decode cX9_feed 96 = .ok (.imul, 1) := by decide +kernel
theorem dX9_feed_97 : decode cX9_feed 97 = .ok (.isub, 1) := by decide +kernel
theorem dX9_feed_98 : decode cX9_feed 98 = .ok (.ishr, 1) := by decide +kernel
theorem dX9_feed_99 : decode cX9_feed 99 = .ok (.i2b, 1) := by decide +kernel
theorem dX9_feed_100 : decode cX9_feed 100 = .ok (.bastore, 1) := by decide +kernel
theorem dX9_feed_101 : decode cX9_feed 101 = .ok (.aload_n 0, 1) := by decide +kernel
theorem dX9_feed_102 : decode cX9_feed 102 = .ok (.aload_n 0, 1) := by decide +kernel
theorem dX9_feed_103 : decode cX9_feed 103 = .ok (.getfield 327, 3) := by decide +kernel
theorem dX9_feed_106 : decode cX9_feed 106 = .ok (.iconst 1, 1) := by decide +kernel
theorem dX9_feed_107 : decode cX9_feed 107 = .ok (.iadd, 1) := by decide +kernel
theorem dX9_feed_108 : decode cX9_feed 108 = .ok (.putfield 327, 3) := by decide +kernel
theorem dX9_feed_111 : decode cX9_feed 111 = .ok (.iinc 6 1, 3) := by decide +kernel
theorem dX9_feed_114 : decode cX9_feed 114 = .ok (.goto (-91), 3) := by decide +kernel
theorem dX9_feed_117 : decode cX9_feed 117 = .ok (.aload_n 0, 1) := by decide +kernel
theorem dX9_feed_118 : decode cX9_feed 118 = .ok (.getfield 327, 3) := by decide +kernel
theorem dX9_feed_121 : decode cX9_feed 121 = .ok (.ireturn, 1) := by decide +kernel
theorem dX9_truncate_0 : decode cX9_truncate 0 = .ok (.aload_n 0, 1) := by decide +kernel
theorem dX9_truncate_1 : decode cX9_truncate 1 = .ok (.iconst 0, 1) := by decide +kernel
theorem dX9_truncate_2 : decode cX9_truncate 2 = .ok (.putfield 67, 3) := by decide +kernel
theorem dX9_truncate_5 : decode cX9_truncate 5 = .ok (.iload_n 1, 1) := by decide +kernel
theorem dX9_truncate_6 : decode cX9_truncate 6 = .ok (.i2l, 1) := by decide +kernel
theorem dX9_truncate_7 : decode cX9_truncate 7 = .ok (.lconst 0, 1) := by decide +kernel
theorem dX9_truncate_8 : decode cX9_truncate 8 = .ok (.aload_n 0, 1) := by decide +kernel
theorem dX9_truncate_9 : decode cX9_truncate 9 = .ok (.getfield 327, 3) := by decide +kernel
theorem dX9_truncate_12 : decode cX9_truncate 12 = .ok (.i2l, 1) := by decide +kernel
theorem dX9_truncate_13 : decode cX9_truncate 13 = .ok (.invokestatic 92, 3) := by decide +kernel
theorem dX9_truncate_16 : decode cX9_truncate 16 = .ok (.ifCond .ne 5, 3) := by decide +kernel
theorem dX9_truncate_19 : decode cX9_truncate 19 = .ok (.iconst 0, 1) := by decide +kernel
theorem dX9_truncate_20 : decode cX9_truncate 20 = .ok (.ireturn, 1) := by decide +kernel
theorem dX9_truncate_21 : decode cX9_truncate 21 = .ok (.aload_n 0, 1) := by decide +kernel
theorem dX9_truncate_22 : decode cX9_truncate 22 = .ok (.iload_n 1, 1) := by decide +kernel
theorem dX9_truncate_23 : decode cX9_truncate 23 = .ok (.putfield 327, 3) := by decide +kernel
theorem dX9_truncate_26 : decode cX9_truncate 26 = .ok (.iconst 1, 1) := by decide +kernel
theorem dX9_truncate_27 : decode cX9_truncate 27 = .ok (.ireturn, 1) := by decide +kernel
theorem dX9_here_0 : decode cX9_here 0 = .ok (.iload_n 1, 1) := by decide +kernel
theorem dX9_here_1 : decode cX9_here 1 = .ok (.aload_n 0, 1) := by decide +kernel
theorem dX9_here_2 : decode cX9_here 2 = .ok (.getfield 330, 3) := by decide +kernel
theorem dX9_here_5 : decode cX9_here 5 = .ok (.if_icmp .ge 16, 3) := by decide +kernel
theorem dX9_here_8 : decode cX9_here 8 = .ok (.aload_n 0, 1) := by decide +kernel
theorem dX9_here_9 : decode cX9_here 9 = .ok (.getfield 42, 3) := by decide +kernel
theorem dX9_here_12 : decode cX9_here 12 = .ok (.iload_n 1, 1) := by decide +kernel
theorem dX9_here_13 : decode cX9_here 13 = .ok (.baload, 1) := by decide +kernel
theorem dX9_here_14 : decode cX9_here 14 = .ok (.sipush 255, 3) := by decide +kernel
theorem dX9_here_17 : decode cX9_here 17 = .ok (.iand, 1) := by decide +kernel
theorem dX9_here_18 : decode cX9_here 18 = .ok (.goto 4, 3) := by decide +kernel
theorem dX9_here_21 : decode cX9_here 21 = .ok (.iconst (-1), 1) := by decide +kernel
theorem dX9_here_22 : decode cX9_here 22 = .ok (.ireturn, 1) := by decide +kernel
theorem dX9_isLetter_0 : decode cX9_isLetter 0 = .ok (.aload_n 0, 1) := by decide +kernel
theorem dX9_isLetter_1 : decode cX9_isLetter 1 = .ok (.iload_n 1, 1) := by decide +kernel
theorem dX9_isLetter_2 : decode cX9_isLetter 2 = .ok (.invokevirtual 333, 3) := by decide +kernel
theorem dX9_isLetter_5 : decode cX9_isLetter 5 = .ok (.i2l, 1) := by decide +kernel
theorem dX9_isLetter_6 : decode cX9_isLetter 6 = .ok (.ldc2_w 336, 3) := by decide +kernel
theorem dX9_isLetter_9 : decode cX9_isLetter 9 = .ok (.ldc2_w 338, 3) := by decide +kernel
theorem dX9_isLetter_12 : decode cX9_isLetter 12 = .ok (.invokestatic 92, 3) := by decide +kernel
theorem dX9_isLetter_15 : decode cX9_isLetter 15 = .ok (.ireturn, 1) := by decide +kernel
theorem dX9_errorCode_0 : decode cX9_errorCode 0 = .ok (.aload_n 0, 1) := by decide +kernel
theorem dX9_errorCode_1 : decode cX9_errorCode 1 = .ok (.iconst 0, 1) := by decide +kernel
theorem dX9_errorCode_2 : decode cX9_errorCode 2 = .ok (.putfield 67, 3) := by decide +kernel
theorem dX9_errorCode_5 : decode cX9_errorCode 5 = .ok (.aload_n 0, 1) := by decide +kernel
theorem dX9_errorCode_6 : decode cX9_errorCode 6 = .ok (.getfield 383, 3) := by decide +kernel
theorem dX9_errorCode_9 : decode cX9_errorCode 9 = .ok (.ireturn, 1) := by decide +kernel
theorem dX9_errorOffset_0 : decode cX9_errorOffset 0 = .ok (.aload_n 0, 1) := by decide +kernel
theorem dX9_errorOffset_1 : decode cX9_errorOffset 1 = .ok (.iconst 0, 1) := by decide +kernel
theorem dX9_errorOffset_2 : decode cX9_errorOffset 2 = .ok (.putfield 67, 3) := by decide +kernel
theorem dX9_errorOffset_5 : decode cX9_errorOffset 5 = .ok (.aload_n 0, 1) := by decide +kernel
theorem dX9_errorOffset_6 : decode cX9_errorOffset 6 = .ok (.getfield 46, 3) := by decide +kernel
theorem dX9_errorOffset_9 : decode cX9_errorOffset 9 = .ok (.ireturn, 1) := by decide +kernel
theorem dX9_outputByte_0 : decode cX9_outputByte 0 = .ok (.aload_n 0, 1) := by decide +kernel
theorem dX9_outputByte_1 : decode cX9_outputByte 1 = .ok (.iconst 0, 1) := by decide +kernel
theorem dX9_outputByte_2 : decode cX9_outputByte 2 = .ok (.putfield 67, 3) := by decide +kernel
theorem dX9_outputByte_5 : decode cX9_outputByte 5 = .ok (.iload_n 1, 1) := by decide +kernel
theorem dX9_outputByte_6 : decode cX9_outputByte 6 = .ok (.i2l, 1) := by decide +kernel
theorem dX9_outputByte_7 : decode cX9_outputByte 7 = .ok (.lconst 0, 1) := by decide +kernel
theorem dX9_outputByte_8 : decode cX9_outputByte 8 = .ok (.aload_n 0, 1) := by decide +kernel
theorem dX9_outputByte_9 : decode cX9_outputByte 9 = .ok (.getfield 438, 3) := by decide +kernel
theorem dX9_outputByte_12 : decode cX9_outputByte 12 = .ok (.i2l, 1) := by decide +kernel
theorem dX9_outputByte_13 : decode cX9_outputByte 13 = .ok (.lconst 1, 1) := by decide +kernel
theorem dX9_outputByte_14 : decode cX9_outputByte 14 = .ok (.lsub, 1) := by decide +kernel
theorem dX9_outputByte_15 : decode cX9_outputByte 15 = .ok (.invokestatic 92, 3) := by decide +kernel
theorem dX9_outputByte_18 : decode cX9_outputByte 18 = .ok (.ifCond .eq 12, 3) := by decide +kernel
theorem dX9_outputByte_21 : decode cX9_outputByte 21 = .ok (.aload_n 0, 1) := by decide +kernel
theorem dX9_outputByte_22 : decode cX9_outputByte 22 = .ok (.getfield 55, 3) := by decide +kernel
theorem dX9_outputByte_25 : decode cX9_outputByte 25 = .ok (.iload_n 1, 1) := by decide +kernel
theorem dX9_outputByte_26 : decode cX9_outputByte 26 = .ok (.baload, 1) := by decide +kernel
theorem dX9_outputByte_27 : decode cX9_outputByte 27 = .ok (.goto 4, 3) := by decide +kernel
theorem dX9_outputByte_30 : decode cX9_outputByte 30 = .ok (.iconst (-1), 1) := by decide +kernel
theorem dX9_outputByte_31 : decode cX9_outputByte 31 = .ok (.ireturn, 1) := by decide +kernel
theorem dX9_indexOf_0 : decode cX9_indexOf 0 = .ok (.iconst 0, 1) := by decide +kernel
theorem dX9_indexOf_1 : decode cX9_indexOf 1 = .ok (.istore 4, 2) := by decide +kernel
theorem dX9_indexOf_3 : decode cX9_indexOf 3 = .ok (.iload 4, 2) := by decide +kernel
theorem dX9_indexOf_5 : decode cX9_indexOf 5 = .ok (.iload_n 1, 1) := by decide +kernel
theorem dX9_indexOf_6 : decode cX9_indexOf 6 = .ok (.if_icmp .ge 21, 3) := by decide +kernel
theorem dX9_indexOf_9 : decode cX9_indexOf 9 = .ok (.aload_n 0, 1) := by decide +kernel
theorem dX9_indexOf_10 : decode cX9_indexOf 10 = .ok (.iload 4, 2) := by decide +kernel
theorem dX9_indexOf_12 : decode cX9_indexOf 12 = .ok (.laload, 1) := by decide +kernel
theorem dX9_indexOf_13 : decode cX9_indexOf 13 = .ok (.lload_n 2, 1) := by decide +kernel
theorem dX9_indexOf_14 : decode cX9_indexOf 14 = .ok (.lcmp, 1) := by decide +kernel
theorem dX9_indexOf_15 : decode cX9_indexOf 15 = .ok (.ifCond .ne 6, 3) := by decide +kernel
theorem dX9_indexOf_18 : decode cX9_indexOf 18 = .ok (.iload 4, 2) := by decide +kernel
theorem dX9_indexOf_20 : decode cX9_indexOf 20 = .ok (.ireturn, 1) := by decide +kernel
theorem dX9_indexOf_21 : decode cX9_indexOf 21 = .ok (.iinc 4 1, 3) := by decide +kernel
theorem dX9_indexOf_24 : decode cX9_indexOf 24 = .ok (.goto (-21), 3) := by decide +kernel
theorem dX9_indexOf_27 : decode cX9_indexOf 27 = .ok (.iconst (-1), 1) := by decide +kernel
theorem dX9_indexOf_28 : decode cX9_indexOf 28 = .ok (.ireturn, 1) := by decide +kernel
theorem dX9_find_0 : decode cX9_find 0 = .ok (.aload_n 0, 1) := by decide +kernel
theorem dX9_find_1 : decode cX9_find 1 = .ok (.iconst 0, 1) := by decide +kernel
theorem dX9_find_2 : decode cX9_find 2 = .ok (.putfield 67, 3) := by decide +kernel
theorem dX9_find_5 : decode cX9_find 5 = .ok (.aload_n 0, 1) := by decide +kernel
theorem dX9_find_6 : decode cX9_find 6 = .ok (.getfield 327, 3) := by decide +kernel
theorem dX9_find_9 : decode cX9_find 9 = .ok (.istore_n 1, 1) := by decide +kernel
theorem dX9_find_10 : decode cX9_find 10 = .ok (.aload_n 0, 1) := by decide +kernel
theorem dX9_find_11 : decode cX9_find 11 = .ok (.iconst 0, 1) := by decide +kernel
theorem dX9_find_12 : decode cX9_find 12 = .ok (.putfield 327, 3) := by decide +kernel
theorem dX9_find_15 : decode cX9_find 15 = .ok (.iload_n 1, 1) := by decide +kernel
theorem dX9_find_16 : decode cX9_find 16 = .ok (.i2l, 1) := by decide +kernel
theorem dX9_find_17 : decode cX9_find 17 = .ok (.lconst 1, 1) := by decide +kernel
theorem dX9_find_18 : decode cX9_find 18 = .ok (.ldc2_w 295, 3) := by decide +kernel
theorem dX9_find_21 : decode cX9_find 21 = .ok (.invokestatic 92, 3) := by decide +kernel
theorem dX9_find_24 : decode cX9_find 24 = .ok (.ifCond .ne 5, 3) := by decide +kernel
theorem dX9_find_27 : decode cX9_find 27 = .ok (.iconst (-1), 1) := by decide +kernel
theorem dX9_find_28 : decode cX9_find 28 = .ok (.ireturn, 1) := by decide +kernel
theorem dX9_find_29 : decode cX9_find 29 = .ok (.lconst 0, 1) := by decide +kernel
theorem dX9_find_30 : decode cX9_find 30 = .ok (.lstore_n 2, 1) := by decide +kernel
theorem dX9_find_31 : decode cX9_find 31 = .ok (.iconst 0, 1) := by decide +kernel
theorem dX9_find_32 : decode cX9_find 32 = .ok (.istore 4, 2) := by decide +kernel
theorem dX9_find_34 : decode cX9_find 34 = .ok (.iload 4, 2) := by decide +kernel
theorem dX9_find_36 : decode cX9_find 36 = .ok (.iload_n 1, 1) := by decide +kernel
theorem dX9_find_37 : decode cX9_find 37 = .ok (.if_icmp .ge 50, 3) := by decide +kernel
theorem dX9_find_40 : decode cX9_find 40 = .ok (.aload_n 0, 1) := by decide +kernel
theorem dX9_find_41 : decode cX9_find 41 = .ok (.getfield 42, 3) := by decide +kernel
theorem dX9_find_44 : decode cX9_find 44 = .ok (.iload 4, 2) := by decide +kernel
theorem dX9_find_46 : decode cX9_find 46 = .ok (.baload, 1) := by decide +kernel
theorem dX9_find_47 : decode cX9_find 47 = .ok (.i2l, 1) := by decide +kernel
theorem dX9_find_48 : decode cX9_find 48 = .ok (.ldc2_w 336, 3) := by decide +kernel
theorem dX9_find_51 : decode cX9_find 51 = .ok (.ldc2_w 338, 3) := by decide +kernel
theorem dX9_find_54 : decode cX9_find 54 = .ok (.invokestatic 92, 3) := by decide +kernel
theorem dX9_find_57 : decode cX9_find 57 = .ok (.ifCond .ne 5, 3) := by decide +kernel
theorem dX9_find_60 : decode cX9_find 60 = .ok (.iconst (-1), 1) := by decide +kernel
theorem dX9_find_61 : decode cX9_find 61 = .ok (.ireturn, 1) := by decide +kernel
theorem dX9_find_62 : decode cX9_find 62 = .ok (.ldc2_w 356, 3) := by decide +kernel
theorem dX9_find_65 : decode cX9_find 65 = .ok (.lload_n 2, 1) := by decide +kernel
theorem dX9_find_66 : decode cX9_find 66 = .ok (.lmul, 1) := by decide +kernel
theorem dX9_find_67 : decode cX9_find 67 = .ok (.aload_n 0, 1) := by decide +kernel
theorem dX9_find_68 : decode cX9_find 68 = .ok (.getfield 42, 3) := by decide +kernel
theorem dX9_find_71 : decode cX9_find 71 = .ok (.iload 4, 2) := by decide +kernel
theorem dX9_find_73 : decode cX9_find 73 = .ok (.baload, 1) := by decide +kernel
theorem dX9_find_74 : decode cX9_find 74 = .ok (.i2l, 1) := by decide +kernel
theorem dX9_find_75 : decode cX9_find 75 = .ok (.ladd, 1) := by decide +kernel
theorem dX9_find_76 : decode cX9_find 76 = .ok (.ldc2_w 358, 3) := by decide +kernel
theorem dX9_find_79 : decode cX9_find 79 = .ok (.lsub, 1) := by decide +kernel
theorem dX9_find_80 : decode cX9_find 80 = .ok (.lstore_n 2, 1) := by decide +kernel
theorem dX9_find_81 : decode cX9_find 81 = .ok (.iinc 4 1, 3) := by decide +kernel
theorem dX9_find_84 : decode cX9_find 84 = .ok (.goto (-50), 3) := by decide +kernel
theorem dX9_find_87 : decode cX9_find 87 = .ok (.aload_n 0, 1) := by decide +kernel
theorem dX9_find_88 : decode cX9_find 88 = .ok (.getfield 7, 3) := by decide +kernel
theorem dX9_find_91 : decode cX9_find 91 = .ok (.aload_n 0, 1) := by decide +kernel
theorem dX9_find_92 : decode cX9_find 92 = .ok (.getfield 89, 3) := by decide +kernel
theorem dX9_find_95 : decode cX9_find 95 = .ok (.lload_n 2, 1) := by decide +kernel
theorem dX9_find_96 : decode cX9_find 96 = .ok (.invokestatic 403, 3) := by decide +kernel
theorem dX9_find_99 : decode cX9_find 99 = .ok (.ireturn, 1) := by decide +kernel
theorem dX9_fine__0 : decode cX9_fine_ 0 = .ok (.aload_n 0, 1) := by decide +kernel
theorem dX9_fine__1 : decode cX9_fine_ 1 = .ok (.getfield 383, 3) := by decide +kernel
theorem dX9_fine__4 : decode cX9_fine_ 4 = .ok (.ifCond .ne 7, 3) := by decide +kernel
theorem dX9_fine__7 : decode cX9_fine_ 7 = .ok (.iconst 1, 1) := by decide +kernel
theorem dX9_fine__8 : decode cX9_fine_ 8 = .ok (.goto 4, 3) := by decide +kernel
theorem dX9_fine__11 : decode cX9_fine_ 11 = .ok (.iconst 0, 1) := by decide +kernel
theorem dX9_fine__12 : decode cX9_fine_ 12 = .ok (.ireturn, 1) := by decide +kernel
theorem dX9_needs_0 : decode cX9_needs 0 = .ok (.aload_n 0, 1) := by decide +kernel
theorem dX9_needs_1 : decode cX9_needs 1 = .ok (.getfield 383, 3) := by decide +kernel
theorem dX9_needs_4 : decode cX9_needs 4 = .ok (.ifCond .ne 7, 3) := by decide +kernel
theorem dX9_needs_7 : decode cX9_needs 7 = .ok (.iload_n 1, 1) := by decide +kernel
theorem dX9_needs_8 : decode cX9_needs 8 = .ok (.ifCond .eq 4, 3) := by decide +kernel
theorem dX9_needs_11 : decode cX9_needs 11 = .ok (.return_, 1) := by decide +kernel
theorem dX9_needs_12 : decode cX9_needs 12 = .ok (.aload_n 0, 1) := by decide +kernel
theorem dX9_needs_13 : decode cX9_needs 13 = .ok (.iload_n 2, 1) := by decide +kernel
theorem dX9_needs_14 : decode cX9_needs 14 = .ok (.putfield 383, 3) := by decide +kernel
theorem dX9_needs_17 : decode cX9_needs 17 = .ok (.aload_n 0, 1) := by decide +kernel
theorem dX9_needs_18 : decode cX9_needs 18 = .ok (.aload_n 0, 1) := by decide +kernel
theorem dX9_needs_19 : decode cX9_needs 19 = .ok (.getfield 343, 3) := by decide +kernel
theorem dX9_needs_22 : decode cX9_needs 22 = .ok (.putfield 46, 3) := by decide +kernel
theorem dX9_needs_25 : decode cX9_needs 25 = .ok (.return_, 1) := by decide +kernel
theorem dX9_isName_0 : decode cX9_isName 0 = .ok (.aload_n 0, 1) := by decide +kernel
theorem dX9_isName_1 : decode cX9_isName 1 = .ok (.getfield 346, 3) := by decide +kernel
theorem dX9_isName_4 : decode cX9_isName 4 = .ok (.iconst 1, 1) := by decide +kernel
theorem dX9_isName_5 : decode cX9_isName 5 = .ok (.if_icmp .ne 29, 3) := by decide +kernel
theorem dX9_isName_8 : decode cX9_isName 8 = .ok (.aload_n 0, 1) := by decide +kernel
theorem dX9_isName_9 : decode cX9_isName 9 = .ok (.getfield 363, 3) := by decide +kernel
theorem dX9_isName_12 : decode cX9_isName 12 = .ok (.iconst (-1), 1) := by decide +kernel
theorem dX9_isName_13 : decode cX9_isName 13 = .ok (.if_icmp .ne 21, 3) := by decide +kernel
theorem dX9_isName_16 : decode cX9_isName 16 = .ok (.aload_n 0, 1) := by decide +kernel
theorem dX9_isName_17 : decode cX9_isName 17 = .ok (.getfield 340, 3) := by decide +kernel
theorem dX9_isName_20 : decode cX9_isName 20 = .ok (.aload_n 0, 1) := by decide +kernel
theorem dX9_isName_21 : decode cX9_isName 21 = .ok (.getfield 343, 3) := by decide +kernel
theorem dX9_isName_24 : decode cX9_isName 24 = .ok (.isub, 1) := by decide +kernel
theorem dX9_isName_25 : decode cX9_isName 25 = .ok (.bipush 6, 2) := by decide +kernel
theorem dX9_isName_27 : decode cX9_isName 27 = .ok (.if_icmp .gt 7, 3) := by decide +kernel
theorem dX9_isName_30 : decode cX9_isName 30 = .ok (.iconst 1, 1) := by decide +kernel
theorem dX9_isName_31 : decode cX9_isName 31 = .ok (.goto 4, 3) := by decide +kernel
theorem dX9_isName_34 : decode cX9_isName 34 = .ok (.iconst 0, 1) := by decide +kernel
theorem dX9_isName_35 : decode cX9_isName 35 = .ok (.ireturn, 1) := by decide +kernel
theorem dX9_isWord_0 : decode cX9_isWord 0 = .ok (.aload_n 0, 1) := by decide +kernel
theorem dX9_isWord_1 : decode cX9_isWord 1 = .ok (.invokevirtual 386, 3) := by decide +kernel
theorem dX9_isWord_4 : decode cX9_isWord 4 = .ok (.ifCond .eq 23, 3) := by decide +kernel
theorem dX9_isWord_7 : decode cX9_isWord 7 = .ok (.aload_n 0, 1) := by decide +kernel
theorem dX9_isWord_8 : decode cX9_isWord 8 = .ok (.getfield 346, 3) := by decide +kernel
theorem dX9_isWord_11 : decode cX9_isWord 11 = .ok (.iconst 1, 1) := by decide +kernel
theorem dX9_isWord_12 : decode cX9_isWord 12 = .ok (.if_icmp .ne 15, 3) := by decide +kernel
theorem dX9_isWord_15 : decode cX9_isWord 15 = .ok (.aload_n 0, 1) := by decide +kernel
theorem dX9_isWord_16 : decode cX9_isWord 16 = .ok (.getfield 363, 3) := by decide +kernel
theorem dX9_isWord_19 : decode cX9_isWord 19 = .ok (.iload_n 1, 1) := by decide +kernel
theorem dX9_isWord_20 : decode cX9_isWord 20 = .ok (.if_icmp .ne 7, 3) := by decide +kernel
theorem dX9_isWord_23 : decode cX9_isWord 23 = .ok (.iconst 1, 1) := by decide +kernel
theorem dX9_isWord_24 : decode cX9_isWord 24 = .ok (.goto 4, 3) := by decide +kernel
theorem dX9_isWord_27 : decode cX9_isWord 27 = .ok (.iconst 0, 1) := by decide +kernel
theorem dX9_isWord_28 : decode cX9_isWord 28 = .ok (.ireturn, 1) := by decide +kernel
theorem dX9_says_0 : decode cX9_says 0 = .ok (.aload_n 0, 1) := by decide +kernel
theorem dX9_says_1 : decode cX9_says 1 = .ok (.getfield 55, 3) := by decide +kernel
theorem dX9_says_4 : decode cX9_says 4 = .ok (.aload_n 0, 1) := by decide +kernel
theorem dX9_says_5 : decode cX9_says 5 = .ok (.getfield 438, 3) := by decide +kernel
theorem dX9_says_8 : decode cX9_says 8 = .ok (.iload_n 1, 1) := by decide +kernel
theorem dX9_says_9 : decode cX9_says 9 = .ok (.i2b, 1) := by decide +kernel
theorem dX9_says_10 : decode cX9_says 10 = .ok (.bastore, 1) := by decide +kernel
theorem dX9_says_11 : decode cX9_says 11 = .ok (.aload_n 0, 1) := by decide +kernel
theorem dX9_says_12 : decode cX9_says 12 = .ok (.aload_n 0, 1) := by decide +kernel
theorem dX9_says_13 : decode cX9_says 13 = .ok (.getfield 438, 3) := by decide +kernel
theorem dX9_says_16 : decode cX9_says 16 = .ok (.iconst 1, 1) := by decide +kernel
theorem dX9_says_17 : decode cX9_says 17 = .ok (.iadd, 1) := by decide +kernel
theorem dX9_says_18 : decode cX9_says 18 = .ok (.putfield 438, 3) := by decide +kernel
theorem dX9_says_21 : decode cX9_says 21 = .ok (.return_, 1) := by decide +kernel
def j_X9_becomesIn_61 (n : Nat) (th_j61 : OS) (w4_j61 : Int32) (s0_j61 : Int32) : Option (OS × Int32) :=
  if s0_j61 = 0 then (
  bnd2 (f_X9_laysBack n th_j61 (-1 : Int32)) (fun (th_3 : OS) (r_4 : Int32) =>
  some (th_3, r_4))) else (
  bnd2 (f_X9_laysBack n th_j61 w4_j61) (fun (th_5 : OS) (r_6 : Int32) =>
  some (th_5, r_6)))
def j_X9_becomesIn_46 (n : Nat) (w1_j7 : Int32) (w3_j7 : Int32) (th_j46 : OS) (w4_j46 : Int32) : Option (OS × Int32) :=
  bnd (f_X9_claim0 n th_j46 w1_j7 (3 : Int32)) (fun (r_2 : Int32) =>
  if r_2 = w3_j7 then (
  j_X9_becomesIn_61 n th_j46 w4_j46 (1 : Int32)) else (
  j_X9_becomesIn_61 n th_j46 w4_j46 (0 : Int32)))
def s_X9_becomesIn_7 (n : Nat) (w1_j7 : Int32) (w2_j7 : Int32) (w3_j7 : Int32) (rc_7 : (OS) → (Int32) → Option (OS × Int32)) (th_j7 : OS) (w4_j7 : Int32) : Option (OS × Int32) :=
  if w2_j7 ≤ w4_j7 then (
  j_X9_becomesIn_46 n w1_j7 w3_j7 th_j7 w4_j7) else (
  gI 1846 (0 : Int32) (Let ((th_j7.2.1 9) (0 : Int32).toNatClampNeg) (fun x_7 : Int32 =>
  if (2000 : Int32) ≤ x_7 then (
  j_X9_becomesIn_46 n w1_j7 w3_j7 th_j7 w4_j7) else (
  bnd (f_X9_doesWait n th_j7 w1_j7) (fun (r_8 : Int32) =>
  if r_8 = 0 then (
  j_X9_becomesIn_46 n w1_j7 w3_j7 th_j7 w4_j7) else (
  bnd (f_X9_ticks n th_j7) (fun (th_9 : OS) =>
  Let (w4_j7 + (1 : Int32)) (fun v4_10 : Int32 =>
  rc_7 th_9 v4_10))))))))
def l_X9_becomesIn_7 (n : Nat) (w1_j7 : Int32) (w2_j7 : Int32) (w3_j7 : Int32) : Nat → (OS) → (Int32) → Option (OS × Int32)
  | 0 => fun _ _ => none
  | N + 1 => s_X9_becomesIn_7 n w1_j7 w2_j7 w3_j7 (l_X9_becomesIn_7 n w1_j7 w2_j7 w3_j7 N)
def f_X9_becomesIn (n : Nat) (th_0 : OS) (v1_0 : Int32) (v2_0 : Int32) (v3_0 : Int32) : Option (OS × Int32) :=
  bnd (f_X9_tries n th_0) (fun (th_1 : OS) =>
  l_X9_becomesIn_7 n v1_0 v2_0 v3_0 n th_1 (0 : Int32))
set_option maxHeartbeats 4000000 in
set_option maxRecDepth 100000 in
theorem c_X9_becomesIn (n : Nat) (l : Launch) (k : KT) (a_th : Nat → Nat) (th_0 : OS) (v1_0 : Int32) (v2_0 : Int32) (v3_0 : Int32) (res : (OS × Int32)) (hf : f_X9_becomesIn n th_0 v1_0 v2_0 v3_0 = some res) : CG l k yX9_becomesIn cX9_becomesIn 6 (some .int) 7 0 0 156 [.ref (a_th 0), .int v1_0, .int v2_0, .int v3_0] (wModel k a_th th_0) (Qi k (fun u : OS => wModel k a_th u) (fun (r : Int32) (u : OS) => res = (u, r))) := by
  refine CG.ofI (by decide) (Nat.le_of_ble_eq_true rfl) (fun p e s m args below meth c A Q E hnm hW hA hret ls hl => ?_)
  have hl : lv_has ls 6 [(0, .ref (a_th 0)), (1, .int v1_0), (2, .int v2_0), (3, .int v3_0)] := hl
  unfold f_X9_becomesIn at hf
  refine k_aload_n E hl 0 dX9_becomesIn_0 rfl ?_
  obtain ⟨th_1, hg, hf⟩ := ob hf
  refine k_callVv (As := []) (rest := []) (ws2 := fun u => wModel k a_th (u)) (c_X9_tries n l k a_th th_0 th_1 hg) E vl_X9_304 dX9_becomesIn_1 rfl [0, 1, 2, 3, 4, 5, 6, 7, 8, 9, 10, 11, 12] 7 0 hW hA hl rfl rfl rfl rfl ⟨by decide, by decide⟩ ⟨by decide, by decide⟩ (Nat.le_of_ble_eq_true rfl) rfl (fun _ => rfl) (fun _ => rfl) (fun u H locs hp hW => ?_)
  cases hp
  have hW : WD k A s.heap (wModel k a_th th_1) H locs := hW
  refine lv_iconst (v := (0 : Int32)) E.hx E.hb dX9_becomesIn_4 ic_0 ?_
  refine k_istore (lv' := [(4, .int (0 : Int32)), (0, .ref (a_th 0)), (1, .int v1_0), (2, .int v2_0), (3, .int v3_0)]) E rfl hl dX9_becomesIn_5 (by decide) rfl (fun ls hl => ?_)
  have L_7 : ∀ (N_7 : Nat) (th_j7 : OS) (w4_j7 : Int32) (H : Heap) (locs : List Loc) (ls : Array Slot) (hW : WD k A s.heap (wModel k a_th th_j7) H locs) (hl : lv_has ls 6 [(0, .ref (a_th 0)), (1, .int v1_0), (2, .int v2_0), (3, .int v3_0), (4, .int w4_j7)]) (hf : l_X9_becomesIn_7 n v1_0 v2_0 v3_0 N_7 th_j7 w4_j7 = some res), W p l e { frames := 7, cells := 0, slots := 0, locals := 156 } s m args below meth c H locs 0 0 Q (F0 m 7 ls []) := by
    intro N_7
    induction N_7 with
    | zero => intro th_j7 w4_j7 H locs ls hW hl hf; exact o0 hf
    | succ N_7 ih_7 =>
      intro th_j7 w4_j7 H locs ls hW hl hf
      have hf : s_X9_becomesIn_7 n v1_0 v2_0 v3_0 (l_X9_becomesIn_7 n v1_0 v2_0 v3_0 N_7) th_j7 w4_j7 = some res := hf
      unfold s_X9_becomesIn_7 at hf
      refine k_iload E hl 4 dX9_becomesIn_7 rfl ?_
      refine k_iload_n E hl 2 dX9_becomesIn_9 rfl ?_
      have J_46 : ∀ (th_j46 : OS) (w4_j46 : Int32) (H : Heap) (locs : List Loc) (ls : Array Slot) (hW : WD k A s.heap (wModel k a_th th_j46) H locs) (hl : lv_has ls 6 [(0, .ref (a_th 0)), (1, .int v1_0), (3, .int v3_0), (4, .int w4_j46)]) (hf : j_X9_becomesIn_46 n v1_0 v3_0 th_j46 w4_j46 = some res), W p l e { frames := 7, cells := 0, slots := 0, locals := 156 } s m args below meth c H locs 0 0 Q (F0 m 46 ls []) := by
        intro th_j46 w4_j46 H locs ls hW hl hf
        unfold j_X9_becomesIn_46 at hf
        refine k_aload_n E hl 0 dX9_becomesIn_46 rfl ?_
        refine k_iload_n E hl 1 dX9_becomesIn_47 rfl ?_
        refine lv_iconst (v := (3 : Int32)) E.hx E.hb dX9_becomesIn_48 ic_3 ?_
        obtain ⟨r_2, hg, hf⟩ := ob hf
        refine k_callVi (As := [.int v1_0, .int (3 : Int32)]) (rest := []) (ws2 := fun u => wModel k a_th th_j46) (c_X9_claim0 n l k a_th th_j46 v1_0 (3 : Int32) r_2 hg) E vl_X9_139 dX9_becomesIn_49 rfl [0, 1, 2, 3, 4, 5, 6, 7, 8, 9, 10, 11, 12] 7 0 hW hA hl rfl rfl rfl rfl ⟨by decide, by decide⟩ ⟨by decide, by decide⟩ (Nat.le_of_ble_eq_true rfl) rfl (fun _ => rfl) (fun _ => rfl) (fun r u H locs hp hW => ?_)
        cases hp
        have hW : WD k A s.heap (wModel k a_th th_j46) H locs := hW
        refine k_iload_n E hl 2 dX9_becomesIn_52 rfl ?_
        have J_61 : ∀ (th_j61 : OS) (w4_j61 : Int32) (s0_j61 : Int32) (H : Heap) (locs : List Loc) (ls : Array Slot) (hW : WD k A s.heap (wModel k a_th th_j61) H locs) (hl : lv_has ls 6 [(0, .ref (a_th 0)), (4, .int w4_j61)]) (hf : j_X9_becomesIn_61 n  th_j61 w4_j61 s0_j61 = some res), W p l e { frames := 7, cells := 0, slots := 0, locals := 156 } s m args below meth c H locs 0 0 Q (F0 m 61 ls [.int s0_j61]) := by
          intro th_j61 w4_j61 s0_j61 H locs ls hW hl hf
          unfold j_X9_becomesIn_61 at hf
          refine k_istore (lv' := [(5, .int s0_j61), (0, .ref (a_th 0)), (4, .int w4_j61)]) E rfl hl dX9_becomesIn_61 (by decide) rfl (fun ls hl => ?_)
          refine k_aload_n E hl 1 dX9_becomesIn_63 rfl ?_
          refine k_iload E hl 0 dX9_becomesIn_64 rfl ?_
          refine lv_if_eq (tgt := 74) E.hx E.hb dX9_becomesIn_66 (by decide) (fun hc => ?_) (fun hc => ?_)
          · have hf := oT hc hf
            refine lv_iconst (v := (-1 : Int32)) E.hx E.hb dX9_becomesIn_74 ic_m1 ?_
            obtain ⟨th_3, r_4, hg, hf⟩ := ob2 hf
            refine k_callVi (As := [.int (-1 : Int32)]) (rest := []) (ws2 := fun u => wModel k a_th (u)) (c_X9_laysBack n l k a_th th_j61 (-1 : Int32) (th_3, r_4) hg) E vl_X9_307 dX9_becomesIn_75 rfl [0, 1, 2, 3, 4, 5, 6, 7, 8, 9, 10, 11, 12] 7 0 hW hA hl rfl rfl rfl rfl ⟨by decide, by decide⟩ ⟨by decide, by decide⟩ (Nat.le_of_ble_eq_true rfl) rfl (fun _ => rfl) (fun _ => rfl) (fun r u H locs hp hW => ?_)
            cases hp
            have hW : WD k A s.heap (wModel k a_th th_3) H locs := hW
            exact hret _ th_3 _ _ _ _ _ _ hW (Option.some.inj hf).symm rfl (by decide) (by decide) dX9_becomesIn_78
          · have hf := oF hc hf
            refine k_iload E hl 2 dX9_becomesIn_69 rfl ?_
            refine lv_goto (tgt := 75) E.hx E.hb dX9_becomesIn_71 (by decide) ?_
            obtain ⟨th_5, r_6, hg, hf⟩ := ob2 hf
            refine k_callVi (As := [.int w4_j61]) (rest := []) (ws2 := fun u => wModel k a_th (u)) (c_X9_laysBack n l k a_th th_j61 w4_j61 (th_5, r_6) hg) E vl_X9_307 dX9_becomesIn_75 rfl [0, 1, 2, 3, 4, 5, 6, 7, 8, 9, 10, 11, 12] 7 0 hW hA hl rfl rfl rfl rfl ⟨by decide, by decide⟩ ⟨by decide, by decide⟩ (Nat.le_of_ble_eq_true rfl) rfl (fun _ => rfl) (fun _ => rfl) (fun r u H locs hp hW => ?_)
            cases hp
            have hW : WD k A s.heap (wModel k a_th th_5) H locs := hW
            exact hret _ th_5 _ _ _ _ _ _ hW (Option.some.inj hf).symm rfl (by decide) (by decide) dX9_becomesIn_78
        refine lv_icmp_ne (tgt := 60) E.hx E.hb dX9_becomesIn_53 (by decide) (fun hc => ?_) (fun hc => ?_)
        · have hf := oF hc hf
          refine lv_iconst (v := (0 : Int32)) E.hx E.hb dX9_becomesIn_60 ic_0 ?_
          exact J_61 th_j46 w4_j46 (0 : Int32) _ _ _ hW (lv_sub hl [0, 3] rfl) hf
        · have hf := oT hc hf
          refine lv_iconst (v := (1 : Int32)) E.hx E.hb dX9_becomesIn_56 ic_1 ?_
          refine lv_goto (tgt := 61) E.hx E.hb dX9_becomesIn_57 (by decide) ?_
          exact J_61 th_j46 w4_j46 (1 : Int32) _ _ _ hW (lv_sub hl [0, 3] rfl) hf
      refine lv_icmp_ge (tgt := 46) E.hx E.hb dX9_becomesIn_10 (by decide) (fun hc => ?_) (fun hc => ?_)
      · have hf := oT hc hf
        exact J_46 th_j7 w4_j7 _ _ _ hW (lv_sub hl [0, 1, 3, 4] rfl) hf
      · have hf := oF hc hf
        refine k_aload_n E hl 0 dX9_becomesIn_13 rfl ?_
        refine gf_X9_13 E hW 0 rfl rfl dX9_becomesIn_14 ?_
        refine lv_iconst (v := (0 : Int32)) E.hx E.hb dX9_becomesIn_17 ic_0 ?_
        obtain ⟨hin, hf⟩ := oI hf
        obtain ⟨x_7, ex_7, hf⟩ := oL hf
        refine k_iald E hW 2 rfl hin dX9_becomesIn_18 ?_
        refine k_topi ex_7 ?_
        refine lv_sipush (v := (2000 : Int32)) E.hx E.hb dX9_becomesIn_19 sp_2000 ?_
        refine lv_icmp_ge (tgt := 46) E.hx E.hb dX9_becomesIn_22 (by decide) (fun hc => ?_) (fun hc => ?_)
        · have hf := oT hc hf
          exact J_46 th_j7 w4_j7 _ _ _ hW (lv_sub hl [0, 1, 3, 4] rfl) hf
        · have hf := oF hc hf
          refine k_aload_n E hl 0 dX9_becomesIn_25 rfl ?_
          refine k_iload_n E hl 1 dX9_becomesIn_26 rfl ?_
          obtain ⟨r_8, hg, hf⟩ := ob hf
          refine k_callVi (As := [.int v1_0]) (rest := []) (ws2 := fun u => wModel k a_th th_j7) (c_X9_doesWait n l k a_th th_j7 v1_0 r_8 hg) E vl_X9_142 dX9_becomesIn_27 rfl [0, 1, 2, 3, 4, 5, 6, 7, 8, 9, 10, 11, 12] 7 0 hW hA hl rfl rfl rfl rfl ⟨by decide, by decide⟩ ⟨by decide, by decide⟩ (Nat.le_of_ble_eq_true rfl) rfl (fun _ => rfl) (fun _ => rfl) (fun r u H locs hp hW => ?_)
          cases hp
          have hW : WD k A s.heap (wModel k a_th th_j7) H locs := hW
          refine lv_if_eq (tgt := 46) E.hx E.hb dX9_becomesIn_30 (by decide) (fun hc => ?_) (fun hc => ?_)
          · have hf := oT hc hf
            exact J_46 th_j7 w4_j7 _ _ _ hW (lv_sub hl [0, 1, 3, 4] rfl) hf
          · have hf := oF hc hf
            refine k_aload_n E hl 0 dX9_becomesIn_33 rfl ?_
            obtain ⟨th_9, hg, hf⟩ := ob hf
            refine k_callVv (As := []) (rest := []) (ws2 := fun u => wModel k a_th (u)) (c_X9_ticks n l k a_th th_j7 th_9 hg) E vl_X9_202 dX9_becomesIn_34 rfl [0, 1, 2, 3, 4, 5, 6, 7, 8, 9, 10, 11, 12] 7 0 hW hA hl rfl rfl rfl rfl ⟨by decide, by decide⟩ ⟨by decide, by decide⟩ (Nat.le_of_ble_eq_true rfl) rfl (fun _ => rfl) (fun _ => rfl) (fun u H locs hp hW => ?_)
            cases hp
            have hW : WD k A s.heap (wModel k a_th th_9) H locs := hW
            refine k_iload E hl 4 dX9_becomesIn_37 rfl ?_
            refine lv_iconst (v := (1 : Int32)) E.hx E.hb dX9_becomesIn_39 ic_1 ?_
            refine lv_iadd E.hx E.hb dX9_becomesIn_40 ?_
            obtain ⟨v4_10, ev4_10, hf⟩ := oL hf
            refine k_istore (lv' := [(4, .int v4_10), (0, .ref (a_th 0)), (1, .int v1_0), (2, .int v2_0), (3, .int v3_0)]) E ev4_10 hl dX9_becomesIn_41 (by decide) rfl (fun ls hl => ?_)
            refine lv_goto (tgt := 7) E.hx E.hb dX9_becomesIn_43 (by decide) ?_
            exact ih_7 th_9 v4_10 _ _ _ hW (lv_sub hl [1, 2, 3, 4, 0] rfl) hf
  exact L_7 n th_1 (0 : Int32) _ _ _ hW (lv_sub hl [1, 2, 3, 4, 0] rfl) hf
def f_X9_metIn (n : Nat) (th_0 : OS) (v1_0 : Int32) (v2_0 : Int32) : Option (OS × Int32) :=
  bnd (f_X9_isClaim n th_0 v1_0) (fun (r_1 : Int32) =>
  bnd2 (f_X9_is n th_0 r_1) (fun (th_2 : OS) (r_3 : Int32) =>
  if r_3 = 0 then (
  some (th_2, (0 : Int32))) else (
  bnd (f_X9_areTicks n v2_0) (fun (r_4 : Int32) =>
  bnd2 (f_X9_may n th_2 r_4 (2 : Int32)) (fun (th_5 : OS) (r_6 : Int32) =>
  if r_6 = 0 then (
  some (th_5, (0 : Int32))) else (
  bnd (f_X9_doesWait n th_5 v1_0) (fun (r_7 : Int32) =>
  if r_7 = 0 then (
  some (th_5, (-1 : Int32))) else (
  bnd2 (f_X9_becomesIn n th_5 v1_0 v2_0 (1 : Int32)) (fun (th_8 : OS) (r_9 : Int32) =>
  some (th_8, r_9))))))))))
set_option maxHeartbeats 4000000 in
set_option maxRecDepth 100000 in
theorem c_X9_metIn (n : Nat) (l : Launch) (k : KT) (a_th : Nat → Nat) (th_0 : OS) (v1_0 : Int32) (v2_0 : Int32) (res : (OS × Int32)) (hf : f_X9_metIn n th_0 v1_0 v2_0 = some res) : CG l k yX9_metIn cX9_metIn 3 (some .int) 8 0 0 181 [.ref (a_th 0), .int v1_0, .int v2_0] (wModel k a_th th_0) (Qi k (fun u : OS => wModel k a_th u) (fun (r : Int32) (u : OS) => res = (u, r))) := by
  refine CG.ofI (by decide) (Nat.le_of_ble_eq_true rfl) (fun p e s m args below meth c A Q E hnm hW hA hret ls hl => ?_)
  have hl : lv_has ls 3 [(0, .ref (a_th 0)), (1, .int v1_0), (2, .int v2_0)] := hl
  unfold f_X9_metIn at hf
  refine k_aload_n E hl 0 dX9_metIn_0 rfl ?_
  refine k_aload_n E hl 0 dX9_metIn_1 rfl ?_
  refine k_iload_n E hl 1 dX9_metIn_2 rfl ?_
  obtain ⟨r_1, hg, hf⟩ := ob hf
  refine k_callVi (As := [.int v1_0]) (rest := [.ref (a_th 0)]) (ws2 := fun u => wModel k a_th th_0) (c_X9_isClaim n l k a_th th_0 v1_0 r_1 hg) E vl_X9_232 dX9_metIn_3 rfl [0, 1, 2, 3, 4, 5, 6, 7, 8, 9, 10, 11, 12] 7 0 hW hA hl rfl rfl rfl rfl ⟨by decide, by decide⟩ ⟨by decide, by decide⟩ (Nat.le_of_ble_eq_true rfl) rfl (fun _ => rfl) (fun _ => rfl) (fun r u H locs hp hW => ?_)
  cases hp
  have hW : WD k A s.heap (wModel k a_th th_0) H locs := hW
  obtain ⟨th_2, r_3, hg, hf⟩ := ob2 hf
  refine k_callVi (As := [.int r_1]) (rest := []) (ws2 := fun u => wModel k a_th (u)) (c_X9_is n l k a_th th_0 r_1 (th_2, r_3) hg) E vl_X9_77 dX9_metIn_6 rfl [0, 1, 2, 3, 4, 5, 6, 7, 8, 9, 10, 11, 12] 7 0 hW hA hl rfl rfl rfl rfl ⟨by decide, by decide⟩ ⟨by decide, by decide⟩ (Nat.le_of_ble_eq_true rfl) rfl (fun _ => rfl) (fun _ => rfl) (fun r u H locs hp hW => ?_)
  cases hp
  have hW : WD k A s.heap (wModel k a_th th_2) H locs := hW
  refine lv_if_eq (tgt := 24) E.hx E.hb dX9_metIn_9 (by decide) (fun hc => ?_) (fun hc => ?_)
  · have hf := oT hc hf
    refine lv_iconst (v := (0 : Int32)) E.hx E.hb dX9_metIn_24 ic_0 ?_
    exact hret _ th_2 _ _ _ _ _ _ hW (Option.some.inj hf).symm rfl (by decide) (by decide) dX9_metIn_25
  · have hf := oF hc hf
    refine k_aload_n E hl 0 dX9_metIn_12 rfl ?_
    refine k_iload_n E hl 2 dX9_metIn_13 rfl ?_
    obtain ⟨r_4, hg, hf⟩ := ob hf
    refine k_callSi (As := [.int v2_0]) (rest := [.ref (a_th 0)]) (ws2 := fun u => wModel k a_th th_2) (c_X9_areTicks n l k v2_0 r_4 hg) E sl_X9_207 dX9_metIn_14 rfl [] hW hA hl rfl rfl ⟨by decide, by decide⟩ ⟨by decide, by decide⟩ (Nat.le_of_ble_eq_true rfl) rfl (fun _ => rfl) (fun _ => rfl) (fun r u H locs hp hW => ?_)
    cases hp
    have hW : WD k A s.heap (wModel k a_th th_2) H locs := hW
    refine lv_iconst (v := (2 : Int32)) E.hx E.hb dX9_metIn_17 ic_2 ?_
    obtain ⟨th_5, r_6, hg, hf⟩ := ob2 hf
    refine k_callVi (As := [.int r_4, .int (2 : Int32)]) (rest := []) (ws2 := fun u => wModel k a_th (u)) (c_X9_may n l k a_th th_2 r_4 (2 : Int32) (th_5, r_6) hg) E vl_X9_210 dX9_metIn_18 rfl [0, 1, 2, 3, 4, 5, 6, 7, 8, 9, 10, 11, 12] 7 0 hW hA hl rfl rfl rfl rfl ⟨by decide, by decide⟩ ⟨by decide, by decide⟩ (Nat.le_of_ble_eq_true rfl) rfl (fun _ => rfl) (fun _ => rfl) (fun r u H locs hp hW => ?_)
    cases hp
    have hW : WD k A s.heap (wModel k a_th th_5) H locs := hW
    refine lv_if_ne (tgt := 26) E.hx E.hb dX9_metIn_21 (by decide) (fun hc => ?_) (fun hc => ?_)
    · have hf := oF hc hf
      refine k_aload_n E hl 0 dX9_metIn_26 rfl ?_
      refine k_iload_n E hl 1 dX9_metIn_27 rfl ?_
      obtain ⟨r_7, hg, hf⟩ := ob hf
      refine k_callVi (As := [.int v1_0]) (rest := []) (ws2 := fun u => wModel k a_th th_5) (c_X9_doesWait n l k a_th th_5 v1_0 r_7 hg) E vl_X9_142 dX9_metIn_28 rfl [0, 1, 2, 3, 4, 5, 6, 7, 8, 9, 10, 11, 12] 7 0 hW hA hl rfl rfl rfl rfl ⟨by decide, by decide⟩ ⟨by decide, by decide⟩ (Nat.le_of_ble_eq_true rfl) rfl (fun _ => rfl) (fun _ => rfl) (fun r u H locs hp hW => ?_)
      cases hp
      have hW : WD k A s.heap (wModel k a_th th_5) H locs := hW
      refine lv_if_ne (tgt := 36) E.hx E.hb dX9_metIn_31 (by decide) (fun hc => ?_) (fun hc => ?_)
      · have hf := oF hc hf
        refine k_aload_n E hl 0 dX9_metIn_36 rfl ?_
        refine k_iload_n E hl 1 dX9_metIn_37 rfl ?_
        refine k_iload_n E hl 2 dX9_metIn_38 rfl ?_
        refine lv_iconst (v := (1 : Int32)) E.hx E.hb dX9_metIn_39 ic_1 ?_
        obtain ⟨th_8, r_9, hg, hf⟩ := ob2 hf
        refine k_callVi (As := [.int v1_0, .int v2_0, .int (1 : Int32)]) (rest := []) (ws2 := fun u => wModel k a_th (u)) (c_X9_becomesIn n l k a_th th_5 v1_0 v2_0 (1 : Int32) (th_8, r_9) hg) E vl_X9_300 dX9_metIn_40 rfl [0, 1, 2, 3, 4, 5, 6, 7, 8, 9, 10, 11, 12] 7 0 hW hA hl rfl rfl rfl rfl ⟨by decide, by decide⟩ ⟨by decide, by decide⟩ (Nat.le_of_ble_eq_true rfl) rfl (fun _ => rfl) (fun _ => rfl) (fun r u H locs hp hW => ?_)
        cases hp
        have hW : WD k A s.heap (wModel k a_th th_8) H locs := hW
        exact hret _ th_8 _ _ _ _ _ _ hW (Option.some.inj hf).symm rfl (by decide) (by decide) dX9_metIn_43
      · have hf := oT hc hf
        refine lv_iconst (v := (-1 : Int32)) E.hx E.hb dX9_metIn_34 ic_m1 ?_
        exact hret _ th_5 _ _ _ _ _ _ hW (Option.some.inj hf).symm rfl (by decide) (by decide) dX9_metIn_35
    · have hf := oT hc hf
      refine lv_iconst (v := (0 : Int32)) E.hx E.hb dX9_metIn_24 ic_0 ?_
      exact hret _ th_5 _ _ _ _ _ _ hW (Option.some.inj hf).symm rfl (by decide) (by decide) dX9_metIn_25
def f_X9_refusedIn (n : Nat) (th_0 : OS) (v1_0 : Int32) (v2_0 : Int32) : Option (OS × Int32) :=
  bnd (f_X9_isClaim n th_0 v1_0) (fun (r_1 : Int32) =>
  bnd2 (f_X9_is n th_0 r_1) (fun (th_2 : OS) (r_3 : Int32) =>
  if r_3 = 0 then (
  some (th_2, (0 : Int32))) else (
  bnd (f_X9_areTicks n v2_0) (fun (r_4 : Int32) =>
  bnd2 (f_X9_may n th_2 r_4 (2 : Int32)) (fun (th_5 : OS) (r_6 : Int32) =>
  if r_6 = 0 then (
  some (th_5, (0 : Int32))) else (
  bnd (f_X9_doesWait n th_5 v1_0) (fun (r_7 : Int32) =>
  if r_7 = 0 then (
  some (th_5, (-1 : Int32))) else (
  bnd2 (f_X9_becomesIn n th_5 v1_0 v2_0 (2 : Int32)) (fun (th_8 : OS) (r_9 : Int32) =>
  some (th_8, r_9))))))))))
set_option maxHeartbeats 4000000 in
set_option maxRecDepth 100000 in
theorem c_X9_refusedIn (n : Nat) (l : Launch) (k : KT) (a_th : Nat → Nat) (th_0 : OS) (v1_0 : Int32) (v2_0 : Int32) (res : (OS × Int32)) (hf : f_X9_refusedIn n th_0 v1_0 v2_0 = some res) : CG l k yX9_refusedIn cX9_refusedIn 3 (some .int) 8 0 0 181 [.ref (a_th 0), .int v1_0, .int v2_0] (wModel k a_th th_0) (Qi k (fun u : OS => wModel k a_th u) (fun (r : Int32) (u : OS) => res = (u, r))) := by
  refine CG.ofI (by decide) (Nat.le_of_ble_eq_true rfl) (fun p e s m args below meth c A Q E hnm hW hA hret ls hl => ?_)
  have hl : lv_has ls 3 [(0, .ref (a_th 0)), (1, .int v1_0), (2, .int v2_0)] := hl
  unfold f_X9_refusedIn at hf
  refine k_aload_n E hl 0 dX9_refusedIn_0 rfl ?_
  refine k_aload_n E hl 0 dX9_refusedIn_1 rfl ?_
  refine k_iload_n E hl 1 dX9_refusedIn_2 rfl ?_
  obtain ⟨r_1, hg, hf⟩ := ob hf
  refine k_callVi (As := [.int v1_0]) (rest := [.ref (a_th 0)]) (ws2 := fun u => wModel k a_th th_0) (c_X9_isClaim n l k a_th th_0 v1_0 r_1 hg) E vl_X9_232 dX9_refusedIn_3 rfl [0, 1, 2, 3, 4, 5, 6, 7, 8, 9, 10, 11, 12] 7 0 hW hA hl rfl rfl rfl rfl ⟨by decide, by decide⟩ ⟨by decide, by decide⟩ (Nat.le_of_ble_eq_true rfl) rfl (fun _ => rfl) (fun _ => rfl) (fun r u H locs hp hW => ?_)
  cases hp
  have hW : WD k A s.heap (wModel k a_th th_0) H locs := hW
  obtain ⟨th_2, r_3, hg, hf⟩ := ob2 hf
  refine k_callVi (As := [.int r_1]) (rest := []) (ws2 := fun u => wModel k a_th (u)) (c_X9_is n l k a_th th_0 r_1 (th_2, r_3) hg) E vl_X9_77 dX9_refusedIn_6 rfl [0, 1, 2, 3, 4, 5, 6, 7, 8, 9, 10, 11, 12] 7 0 hW hA hl rfl rfl rfl rfl ⟨by decide, by decide⟩ ⟨by decide, by decide⟩ (Nat.le_of_ble_eq_true rfl) rfl (fun _ => rfl) (fun _ => rfl) (fun r u H locs hp hW => ?_)
  cases hp
  have hW : WD k A s.heap (wModel k a_th th_2) H locs := hW
  refine lv_if_eq (tgt := 24) E.hx E.hb dX9_refusedIn_9 (by decide) (fun hc => ?_) (fun hc => ?_)
  · have hf := oT hc hf
    refine lv_iconst (v := (0 : Int32)) E.hx E.hb dX9_refusedIn_24 ic_0 ?_
    exact hret _ th_2 _ _ _ _ _ _ hW (Option.some.inj hf).symm rfl (by decide) (by decide) dX9_refusedIn_25
  · have hf := oF hc hf
    refine k_aload_n E hl 0 dX9_refusedIn_12 rfl ?_
    refine k_iload_n E hl 2 dX9_refusedIn_13 rfl ?_
    obtain ⟨r_4, hg, hf⟩ := ob hf
    refine k_callSi (As := [.int v2_0]) (rest := [.ref (a_th 0)]) (ws2 := fun u => wModel k a_th th_2) (c_X9_areTicks n l k v2_0 r_4 hg) E sl_X9_207 dX9_refusedIn_14 rfl [] hW hA hl rfl rfl ⟨by decide, by decide⟩ ⟨by decide, by decide⟩ (Nat.le_of_ble_eq_true rfl) rfl (fun _ => rfl) (fun _ => rfl) (fun r u H locs hp hW => ?_)
    cases hp
    have hW : WD k A s.heap (wModel k a_th th_2) H locs := hW
    refine lv_iconst (v := (2 : Int32)) E.hx E.hb dX9_refusedIn_17 ic_2 ?_
    obtain ⟨th_5, r_6, hg, hf⟩ := ob2 hf
    refine k_callVi (As := [.int r_4, .int (2 : Int32)]) (rest := []) (ws2 := fun u => wModel k a_th (u)) (c_X9_may n l k a_th th_2 r_4 (2 : Int32) (th_5, r_6) hg) E vl_X9_210 dX9_refusedIn_18 rfl [0, 1, 2, 3, 4, 5, 6, 7, 8, 9, 10, 11, 12] 7 0 hW hA hl rfl rfl rfl rfl ⟨by decide, by decide⟩ ⟨by decide, by decide⟩ (Nat.le_of_ble_eq_true rfl) rfl (fun _ => rfl) (fun _ => rfl) (fun r u H locs hp hW => ?_)
    cases hp
    have hW : WD k A s.heap (wModel k a_th th_5) H locs := hW
    refine lv_if_ne (tgt := 26) E.hx E.hb dX9_refusedIn_21 (by decide) (fun hc => ?_) (fun hc => ?_)
    · have hf := oF hc hf
      refine k_aload_n E hl 0 dX9_refusedIn_26 rfl ?_
      refine k_iload_n E hl 1 dX9_refusedIn_27 rfl ?_
      obtain ⟨r_7, hg, hf⟩ := ob hf
      refine k_callVi (As := [.int v1_0]) (rest := []) (ws2 := fun u => wModel k a_th th_5) (c_X9_doesWait n l k a_th th_5 v1_0 r_7 hg) E vl_X9_142 dX9_refusedIn_28 rfl [0, 1, 2, 3, 4, 5, 6, 7, 8, 9, 10, 11, 12] 7 0 hW hA hl rfl rfl rfl rfl ⟨by decide, by decide⟩ ⟨by decide, by decide⟩ (Nat.le_of_ble_eq_true rfl) rfl (fun _ => rfl) (fun _ => rfl) (fun r u H locs hp hW => ?_)
      cases hp
      have hW : WD k A s.heap (wModel k a_th th_5) H locs := hW
      refine lv_if_eq (tgt := 44) E.hx E.hb dX9_refusedIn_31 (by decide) (fun hc => ?_) (fun hc => ?_)
      · have hf := oT hc hf
        refine lv_iconst (v := (-1 : Int32)) E.hx E.hb dX9_refusedIn_44 ic_m1 ?_
        exact hret _ th_5 _ _ _ _ _ _ hW (Option.some.inj hf).symm rfl (by decide) (by decide) dX9_refusedIn_45
      · have hf := oF hc hf
        refine k_aload_n E hl 0 dX9_refusedIn_34 rfl ?_
        refine k_iload_n E hl 1 dX9_refusedIn_35 rfl ?_
        refine k_iload_n E hl 2 dX9_refusedIn_36 rfl ?_
        refine lv_iconst (v := (2 : Int32)) E.hx E.hb dX9_refusedIn_37 ic_2 ?_
        obtain ⟨th_8, r_9, hg, hf⟩ := ob2 hf
        refine k_callVi (As := [.int v1_0, .int v2_0, .int (2 : Int32)]) (rest := []) (ws2 := fun u => wModel k a_th (u)) (c_X9_becomesIn n l k a_th th_5 v1_0 v2_0 (2 : Int32) (th_8, r_9) hg) E vl_X9_300 dX9_refusedIn_38 rfl [0, 1, 2, 3, 4, 5, 6, 7, 8, 9, 10, 11, 12] 7 0 hW hA hl rfl rfl rfl rfl ⟨by decide, by decide⟩ ⟨by decide, by decide⟩ (Nat.le_of_ble_eq_true rfl) rfl (fun _ => rfl) (fun _ => rfl) (fun r u H locs hp hW => ?_)
        cases hp
        have hW : WD k A s.heap (wModel k a_th th_8) H locs := hW
        refine lv_goto (tgt := 45) E.hx E.hb dX9_refusedIn_41 (by decide) ?_
        exact hret _ th_8 _ _ _ _ _ _ hW (Option.some.inj hf).symm rfl (by decide) (by decide) dX9_refusedIn_45
    · have hf := oT hc hf
      refine lv_iconst (v := (0 : Int32)) E.hx E.hb dX9_refusedIn_24 ic_0 ?_
      exact hret _ th_5 _ _ _ _ _ _ hW (Option.some.inj hf).symm rfl (by decide) (by decide) dX9_refusedIn_25
def f_X9_wouldPay (n : Nat) (th_0 : OS) (v1_0 : Int32) : Option (OS × Int32) :=
  bnd (f_X9_isProcess n th_0 v1_0) (fun (r_1 : Int32) =>
  bnd2 (f_X9_is n th_0 r_1) (fun (th_2 : OS) (r_3 : Int32) =>
  if r_3 = 0 then (
  some (th_2, (0 : Int32))) else (
  bnd (f_X9_timeOfHearing n th_2) (fun (r_4 : Int32) =>
  if r_4 = (-1 : Int32) then (
  some (th_2, (0 : Int32))) else (
  bnd (f_X9_tries n th_2) (fun (th_5 : OS) =>
  Let (sI th_5 19 v1_0) (fun th_6 : OS =>
  Let (sI th_6 20 (0 : Int32)) (fun th_7 : OS =>
  gI 1846 (0 : Int32) (Let ((th_7.2.1 9) (0 : Int32).toNatClampNeg) (fun x_8 : Int32 =>
  bnd2 (f_X9_goesOn n th_7 (r_4 - x_8)) (fun (th_9 : OS) (r_10 : Int32) =>
  Let (sI th_9 19 (-1 : Int32)) (fun th_11 : OS =>
  bnd2 (f_X9_laysBack n th_11 (th_11.1 20)) (fun (th_12 : OS) (r_13 : Int32) =>
  some (th_12, r_13))))))))))))))
set_option maxHeartbeats 4000000 in
set_option maxRecDepth 100000 in
theorem c_X9_wouldPay (n : Nat) (l : Launch) (k : KT) (a_th : Nat → Nat) (th_0 : OS) (v1_0 : Int32) (res : (OS × Int32)) (hf : f_X9_wouldPay n th_0 v1_0 = some res) : CG l k yX9_wouldPay cX9_wouldPay 4 (some .int) 8 0 0 179 [.ref (a_th 0), .int v1_0] (wModel k a_th th_0) (Qi k (fun u : OS => wModel k a_th u) (fun (r : Int32) (u : OS) => res = (u, r))) := by
  refine CG.ofI (by decide) (Nat.le_of_ble_eq_true rfl) (fun p e s m args below meth c A Q E hnm hW hA hret ls hl => ?_)
  have hl : lv_has ls 4 [(0, .ref (a_th 0)), (1, .int v1_0)] := hl
  unfold f_X9_wouldPay at hf
  refine k_aload_n E hl 0 dX9_wouldPay_0 rfl ?_
  refine k_aload_n E hl 0 dX9_wouldPay_1 rfl ?_
  refine k_iload_n E hl 1 dX9_wouldPay_2 rfl ?_
  obtain ⟨r_1, hg, hf⟩ := ob hf
  refine k_callVi (As := [.int v1_0]) (rest := [.ref (a_th 0)]) (ws2 := fun u => wModel k a_th th_0) (c_X9_isProcess n l k a_th th_0 v1_0 r_1 hg) E vl_X9_223 dX9_wouldPay_3 rfl [0, 1, 2, 3, 4, 5, 6, 7, 8, 9, 10, 11, 12] 7 0 hW hA hl rfl rfl rfl rfl ⟨by decide, by decide⟩ ⟨by decide, by decide⟩ (Nat.le_of_ble_eq_true rfl) rfl (fun _ => rfl) (fun _ => rfl) (fun r u H locs hp hW => ?_)
  cases hp
  have hW : WD k A s.heap (wModel k a_th th_0) H locs := hW
  obtain ⟨th_2, r_3, hg, hf⟩ := ob2 hf
  refine k_callVi (As := [.int r_1]) (rest := []) (ws2 := fun u => wModel k a_th (u)) (c_X9_is n l k a_th th_0 r_1 (th_2, r_3) hg) E vl_X9_77 dX9_wouldPay_6 rfl [0, 1, 2, 3, 4, 5, 6, 7, 8, 9, 10, 11, 12] 7 0 hW hA hl rfl rfl rfl rfl ⟨by decide, by decide⟩ ⟨by decide, by decide⟩ (Nat.le_of_ble_eq_true rfl) rfl (fun _ => rfl) (fun _ => rfl) (fun r u H locs hp hW => ?_)
  cases hp
  have hW : WD k A s.heap (wModel k a_th th_2) H locs := hW
  refine lv_if_ne (tgt := 14) E.hx E.hb dX9_wouldPay_9 (by decide) (fun hc => ?_) (fun hc => ?_)
  · have hf := oF hc hf
    refine k_aload_n E hl 0 dX9_wouldPay_14 rfl ?_
    obtain ⟨r_4, hg, hf⟩ := ob hf
    refine k_callVi (As := []) (rest := []) (ws2 := fun u => wModel k a_th th_2) (c_X9_timeOfHearing n l k a_th th_2 r_4 hg) E vl_X9_297 dX9_wouldPay_15 rfl [0, 1, 2, 3, 4, 5, 6, 7, 8, 9, 10, 11, 12] 7 0 hW hA hl rfl rfl rfl rfl ⟨by decide, by decide⟩ ⟨by decide, by decide⟩ (Nat.le_of_ble_eq_true rfl) rfl (fun _ => rfl) (fun _ => rfl) (fun r u H locs hp hW => ?_)
    cases hp
    have hW : WD k A s.heap (wModel k a_th th_2) H locs := hW
    refine k_istore_n (lv' := [(2, .int r_4), (0, .ref (a_th 0)), (1, .int v1_0)]) E rfl hl dX9_wouldPay_18 rfl (by decide) rfl (fun ls hl => ?_)
    refine k_iload_n E hl 0 dX9_wouldPay_19 rfl ?_
    refine lv_iconst (v := (-1 : Int32)) E.hx E.hb dX9_wouldPay_20 ic_m1 ?_
    refine lv_icmp_ne (tgt := 26) E.hx E.hb dX9_wouldPay_21 (by decide) (fun hc => ?_) (fun hc => ?_)
    · have hf := oF hc hf
      refine k_aload_n E hl 1 dX9_wouldPay_26 rfl ?_
      obtain ⟨th_5, hg, hf⟩ := ob hf
      refine k_callVv (As := []) (rest := []) (ws2 := fun u => wModel k a_th (u)) (c_X9_tries n l k a_th th_2 th_5 hg) E vl_X9_304 dX9_wouldPay_27 rfl [0, 1, 2, 3, 4, 5, 6, 7, 8, 9, 10, 11, 12] 7 0 hW hA hl rfl rfl rfl rfl ⟨by decide, by decide⟩ ⟨by decide, by decide⟩ (Nat.le_of_ble_eq_true rfl) rfl (fun _ => rfl) (fun _ => rfl) (fun u H locs hp hW => ?_)
      cases hp
      have hW : WD k A s.heap (wModel k a_th th_5) H locs := hW
      refine k_aload_n E hl 1 dX9_wouldPay_30 rfl ?_
      refine k_iload_n E hl 2 dX9_wouldPay_31 rfl ?_
      obtain ⟨th_6, eth_6, hf⟩ := oL hf
      refine pf_X9_36 (ws2 := wModel k a_th th_6) E hW 0 rfl rfl rfl (Nat.le_of_ble_eq_true rfl) dX9_wouldPay_32 (by rw [eth_6]; rfl) (fun H locs hW => ?_)
      refine k_aload_n E hl 1 dX9_wouldPay_35 rfl ?_
      refine lv_iconst (v := (0 : Int32)) E.hx E.hb dX9_wouldPay_36 ic_0 ?_
      obtain ⟨th_7, eth_7, hf⟩ := oL hf
      refine pf_X9_136 (ws2 := wModel k a_th th_7) E hW 0 rfl rfl rfl (Nat.le_of_ble_eq_true rfl) dX9_wouldPay_37 (by rw [eth_7]; rfl) (fun H locs hW => ?_)
      refine k_aload_n E hl 1 dX9_wouldPay_40 rfl ?_
      refine k_iload_n E hl 0 dX9_wouldPay_41 rfl ?_
      refine k_aload_n E hl 1 dX9_wouldPay_42 rfl ?_
      refine gf_X9_13 E hW 0 rfl rfl dX9_wouldPay_43 ?_
      refine lv_iconst (v := (0 : Int32)) E.hx E.hb dX9_wouldPay_46 ic_0 ?_
      obtain ⟨hin, hf⟩ := oI hf
      obtain ⟨x_8, ex_8, hf⟩ := oL hf
      refine k_iald E hW 2 rfl hin dX9_wouldPay_47 ?_
      refine k_topi ex_8 ?_
      refine lv_isub E.hx E.hb dX9_wouldPay_48 ?_
      obtain ⟨th_9, r_10, hg, hf⟩ := ob2 hf
      refine k_callVi (As := [.int (r_4 - x_8)]) (rest := []) (ws2 := fun u => wModel k a_th (u)) (c_X9_goesOn n l k a_th th_7 (r_4 - x_8) (th_9, r_10) hg) E vl_X9_217 dX9_wouldPay_49 rfl [0, 1, 2, 3, 4, 5, 6, 7, 8, 9, 10, 11, 12] 7 0 hW hA hl rfl rfl rfl rfl ⟨by decide, by decide⟩ ⟨by decide, by decide⟩ (Nat.le_of_ble_eq_true rfl) rfl (fun _ => rfl) (fun _ => rfl) (fun r u H locs hp hW => ?_)
      cases hp
      have hW : WD k A s.heap (wModel k a_th th_9) H locs := hW
      refine k_istore_n (lv' := [(3, .int r_10), (2, .int r_4), (0, .ref (a_th 0)), (1, .int v1_0)]) E rfl hl dX9_wouldPay_52 rfl (by decide) rfl (fun ls hl => ?_)
      refine k_aload_n E hl 2 dX9_wouldPay_53 rfl ?_
      refine lv_iconst (v := (-1 : Int32)) E.hx E.hb dX9_wouldPay_54 ic_m1 ?_
      obtain ⟨th_11, eth_11, hf⟩ := oL hf
      refine pf_X9_36 (ws2 := wModel k a_th th_11) E hW 0 rfl rfl rfl (Nat.le_of_ble_eq_true rfl) dX9_wouldPay_55 (by rw [eth_11]; rfl) (fun H locs hW => ?_)
      refine k_aload_n E hl 2 dX9_wouldPay_58 rfl ?_
      refine k_aload_n E hl 2 dX9_wouldPay_59 rfl ?_
      refine gf_X9_136 E hW 0 rfl rfl dX9_wouldPay_60 ?_
      obtain ⟨th_12, r_13, hg, hf⟩ := ob2 hf
      refine k_callVi (As := [.int (th_11.1 20)]) (rest := []) (ws2 := fun u => wModel k a_th (u)) (c_X9_laysBack n l k a_th th_11 (th_11.1 20) (th_12, r_13) hg) E vl_X9_307 dX9_wouldPay_63 rfl [0, 1, 2, 3, 4, 5, 6, 7, 8, 9, 10, 11, 12] 7 0 hW hA hl rfl rfl rfl rfl ⟨by decide, by decide⟩ ⟨by decide, by decide⟩ (Nat.le_of_ble_eq_true rfl) rfl (fun _ => rfl) (fun _ => rfl) (fun r u H locs hp hW => ?_)
      cases hp
      have hW : WD k A s.heap (wModel k a_th th_12) H locs := hW
      exact hret _ th_12 _ _ _ _ _ _ hW (Option.some.inj hf).symm rfl (by decide) (by decide) dX9_wouldPay_66
    · have hf := oT hc hf
      refine lv_iconst (v := (0 : Int32)) E.hx E.hb dX9_wouldPay_24 ic_0 ?_
      exact hret _ th_2 _ _ _ _ _ _ hW (Option.some.inj hf).symm rfl (by decide) (by decide) dX9_wouldPay_25
  · have hf := oT hc hf
    refine lv_iconst (v := (0 : Int32)) E.hx E.hb dX9_wouldPay_12 ic_0 ?_
    exact hret _ th_2 _ _ _ _ _ _ hW (Option.some.inj hf).symm rfl (by decide) (by decide) dX9_wouldPay_13
def f_X9_freeIn (n : Nat) (th_0 : OS) (v1_0 : Int32) : Option (OS × Int32) :=
  bnd (f_X9_areTicks n v1_0) (fun (r_1 : Int32) =>
  bnd2 (f_X9_is n th_0 r_1) (fun (th_2 : OS) (r_3 : Int32) =>
  if r_3 = 0 then (
  some (th_2, (0 : Int32))) else (
  bnd (f_X9_tries n th_2) (fun (th_4 : OS) =>
  bnd2 (f_X9_goesOn n th_4 v1_0) (fun (th_5 : OS) (r_6 : Int32) =>
  bnd (f_X9_free n th_5) (fun (r_7 : Int32) =>
  bnd2 (f_X9_laysBack n th_5 r_7) (fun (th_8 : OS) (r_9 : Int32) =>
  some (th_8, r_9))))))))
set_option maxHeartbeats 4000000 in
set_option maxRecDepth 100000 in
theorem c_X9_freeIn (n : Nat) (l : Launch) (k : KT) (a_th : Nat → Nat) (th_0 : OS) (v1_0 : Int32) (res : (OS × Int32)) (hf : f_X9_freeIn n th_0 v1_0 = some res) : CG l k yX9_freeIn cX9_freeIn 3 (some .int) 8 0 0 179 [.ref (a_th 0), .int v1_0] (wModel k a_th th_0) (Qi k (fun u : OS => wModel k a_th u) (fun (r : Int32) (u : OS) => res = (u, r))) := by
  refine CG.ofI (by decide) (Nat.le_of_ble_eq_true rfl) (fun p e s m args below meth c A Q E hnm hW hA hret ls hl => ?_)
  have hl : lv_has ls 3 [(0, .ref (a_th 0)), (1, .int v1_0)] := hl
  unfold f_X9_freeIn at hf
  refine k_aload_n E hl 0 dX9_freeIn_0 rfl ?_
  refine k_iload_n E hl 1 dX9_freeIn_1 rfl ?_
  obtain ⟨r_1, hg, hf⟩ := ob hf
  refine k_callSi (As := [.int v1_0]) (rest := [.ref (a_th 0)]) (ws2 := fun u => wModel k a_th th_0) (c_X9_areTicks n l k v1_0 r_1 hg) E sl_X9_207 dX9_freeIn_2 rfl [] hW hA hl rfl rfl ⟨by decide, by decide⟩ ⟨by decide, by decide⟩ (Nat.le_of_ble_eq_true rfl) rfl (fun _ => rfl) (fun _ => rfl) (fun r u H locs hp hW => ?_)
  cases hp
  have hW : WD k A s.heap (wModel k a_th th_0) H locs := hW
  obtain ⟨th_2, r_3, hg, hf⟩ := ob2 hf
  refine k_callVi (As := [.int r_1]) (rest := []) (ws2 := fun u => wModel k a_th (u)) (c_X9_is n l k a_th th_0 r_1 (th_2, r_3) hg) E vl_X9_77 dX9_freeIn_5 rfl [0, 1, 2, 3, 4, 5, 6, 7, 8, 9, 10, 11, 12] 7 0 hW hA hl rfl rfl rfl rfl ⟨by decide, by decide⟩ ⟨by decide, by decide⟩ (Nat.le_of_ble_eq_true rfl) rfl (fun _ => rfl) (fun _ => rfl) (fun r u H locs hp hW => ?_)
  cases hp
  have hW : WD k A s.heap (wModel k a_th th_2) H locs := hW
  refine lv_if_ne (tgt := 13) E.hx E.hb dX9_freeIn_8 (by decide) (fun hc => ?_) (fun hc => ?_)
  · have hf := oF hc hf
    refine k_aload_n E hl 0 dX9_freeIn_13 rfl ?_
    obtain ⟨th_4, hg, hf⟩ := ob hf
    refine k_callVv (As := []) (rest := []) (ws2 := fun u => wModel k a_th (u)) (c_X9_tries n l k a_th th_2 th_4 hg) E vl_X9_304 dX9_freeIn_14 rfl [0, 1, 2, 3, 4, 5, 6, 7, 8, 9, 10, 11, 12] 7 0 hW hA hl rfl rfl rfl rfl ⟨by decide, by decide⟩ ⟨by decide, by decide⟩ (Nat.le_of_ble_eq_true rfl) rfl (fun _ => rfl) (fun _ => rfl) (fun u H locs hp hW => ?_)
    cases hp
    have hW : WD k A s.heap (wModel k a_th th_4) H locs := hW
    refine k_aload_n E hl 0 dX9_freeIn_17 rfl ?_
    refine k_iload_n E hl 1 dX9_freeIn_18 rfl ?_
    obtain ⟨th_5, r_6, hg, hf⟩ := ob2 hf
    refine k_callVi (As := [.int v1_0]) (rest := []) (ws2 := fun u => wModel k a_th (u)) (c_X9_goesOn n l k a_th th_4 v1_0 (th_5, r_6) hg) E vl_X9_217 dX9_freeIn_19 rfl [0, 1, 2, 3, 4, 5, 6, 7, 8, 9, 10, 11, 12] 7 0 hW hA hl rfl rfl rfl rfl ⟨by decide, by decide⟩ ⟨by decide, by decide⟩ (Nat.le_of_ble_eq_true rfl) rfl (fun _ => rfl) (fun _ => rfl) (fun r u H locs hp hW => ?_)
    cases hp
    have hW : WD k A s.heap (wModel k a_th th_5) H locs := hW
    refine k_istore_n (lv' := [(2, .int r_6), (0, .ref (a_th 0)), (1, .int v1_0)]) E rfl hl dX9_freeIn_22 rfl (by decide) rfl (fun ls hl => ?_)
    refine k_aload_n E hl 1 dX9_freeIn_23 rfl ?_
    refine k_aload_n E hl 1 dX9_freeIn_24 rfl ?_
    obtain ⟨r_7, hg, hf⟩ := ob hf
    refine k_callVi (As := []) (rest := [.ref (a_th 0)]) (ws2 := fun u => wModel k a_th th_5) (c_X9_free n l k a_th th_5 r_7 hg) E vl_X9_166 dX9_freeIn_25 rfl [0, 1, 2, 3, 4, 5, 6, 7, 8, 9, 10, 11, 12] 7 0 hW hA hl rfl rfl rfl rfl ⟨by decide, by decide⟩ ⟨by decide, by decide⟩ (Nat.le_of_ble_eq_true rfl) rfl (fun _ => rfl) (fun _ => rfl) (fun r u H locs hp hW => ?_)
    cases hp
    have hW : WD k A s.heap (wModel k a_th th_5) H locs := hW
    obtain ⟨th_8, r_9, hg, hf⟩ := ob2 hf
    refine k_callVi (As := [.int r_7]) (rest := []) (ws2 := fun u => wModel k a_th (u)) (c_X9_laysBack n l k a_th th_5 r_7 (th_8, r_9) hg) E vl_X9_307 dX9_freeIn_28 rfl [0, 1, 2, 3, 4, 5, 6, 7, 8, 9, 10, 11, 12] 7 0 hW hA hl rfl rfl rfl rfl ⟨by decide, by decide⟩ ⟨by decide, by decide⟩ (Nat.le_of_ble_eq_true rfl) rfl (fun _ => rfl) (fun _ => rfl) (fun r u H locs hp hW => ?_)
    cases hp
    have hW : WD k A s.heap (wModel k a_th th_8) H locs := hW
    exact hret _ th_8 _ _ _ _ _ _ hW (Option.some.inj hf).symm rfl (by decide) (by decide) dX9_freeIn_31
  · have hf := oT hc hf
    refine lv_iconst (v := (0 : Int32)) E.hx E.hb dX9_freeIn_11 ic_0 ?_
    exact hret _ th_2 _ _ _ _ _ _ hW (Option.some.inj hf).symm rfl (by decide) (by decide) dX9_freeIn_12
def f_X9_wouldFine (n : Nat) (th_0 : OS) (v1_0 : Int32) : Option (OS × Int32) :=
  bnd (f_X9_isLoan n th_0 v1_0) (fun (r_1 : Int32) =>
  bnd2 (f_X9_is n th_0 r_1) (fun (th_2 : OS) (r_3 : Int32) =>
  if r_3 = 0 then (
  some (th_2, (0 : Int32))) else (
  bnd (f_X9_timeOfHearing n th_2) (fun (r_4 : Int32) =>
  if r_4 = (-1 : Int32) then (
  some (th_2, (0 : Int32))) else (
  bnd (f_X9_tries n th_2) (fun (th_5 : OS) =>
  Let (sI th_5 17 v1_0) (fun th_6 : OS =>
  Let (sI th_6 18 (0 : Int32)) (fun th_7 : OS =>
  gI 1846 (0 : Int32) (Let ((th_7.2.1 9) (0 : Int32).toNatClampNeg) (fun x_8 : Int32 =>
  bnd2 (f_X9_goesOn n th_7 (r_4 - x_8)) (fun (th_9 : OS) (r_10 : Int32) =>
  Let (sI th_9 17 (-1 : Int32)) (fun th_11 : OS =>
  bnd2 (f_X9_laysBack n th_11 (th_11.1 18)) (fun (th_12 : OS) (r_13 : Int32) =>
  some (th_12, r_13))))))))))))))
set_option maxHeartbeats 4000000 in
set_option maxRecDepth 100000 in
theorem c_X9_wouldFine (n : Nat) (l : Launch) (k : KT) (a_th : Nat → Nat) (th_0 : OS) (v1_0 : Int32) (res : (OS × Int32)) (hf : f_X9_wouldFine n th_0 v1_0 = some res) : CG l k yX9_wouldFine cX9_wouldFine 4 (some .int) 8 0 0 179 [.ref (a_th 0), .int v1_0] (wModel k a_th th_0) (Qi k (fun u : OS => wModel k a_th u) (fun (r : Int32) (u : OS) => res = (u, r))) := by
  refine CG.ofI (by decide) (Nat.le_of_ble_eq_true rfl) (fun p e s m args below meth c A Q E hnm hW hA hret ls hl => ?_)
  have hl : lv_has ls 4 [(0, .ref (a_th 0)), (1, .int v1_0)] := hl
  unfold f_X9_wouldFine at hf
  refine k_aload_n E hl 0 dX9_wouldFine_0 rfl ?_
  refine k_aload_n E hl 0 dX9_wouldFine_1 rfl ?_
  refine k_iload_n E hl 1 dX9_wouldFine_2 rfl ?_
  obtain ⟨r_1, hg, hf⟩ := ob hf
  refine k_callVi (As := [.int v1_0]) (rest := [.ref (a_th 0)]) (ws2 := fun u => wModel k a_th th_0) (c_X9_isLoan n l k a_th th_0 v1_0 r_1 hg) E vl_X9_235 dX9_wouldFine_3 rfl [0, 1, 2, 3, 4, 5, 6, 7, 8, 9, 10, 11, 12] 7 0 hW hA hl rfl rfl rfl rfl ⟨by decide, by decide⟩ ⟨by decide, by decide⟩ (Nat.le_of_ble_eq_true rfl) rfl (fun _ => rfl) (fun _ => rfl) (fun r u H locs hp hW => ?_)
  cases hp
  have hW : WD k A s.heap (wModel k a_th th_0) H locs := hW
  obtain ⟨th_2, r_3, hg, hf⟩ := ob2 hf
  refine k_callVi (As := [.int r_1]) (rest := []) (ws2 := fun u => wModel k a_th (u)) (c_X9_is n l k a_th th_0 r_1 (th_2, r_3) hg) E vl_X9_77 dX9_wouldFine_6 rfl [0, 1, 2, 3, 4, 5, 6, 7, 8, 9, 10, 11, 12] 7 0 hW hA hl rfl rfl rfl rfl ⟨by decide, by decide⟩ ⟨by decide, by decide⟩ (Nat.le_of_ble_eq_true rfl) rfl (fun _ => rfl) (fun _ => rfl) (fun r u H locs hp hW => ?_)
  cases hp
  have hW : WD k A s.heap (wModel k a_th th_2) H locs := hW
  refine lv_if_ne (tgt := 14) E.hx E.hb dX9_wouldFine_9 (by decide) (fun hc => ?_) (fun hc => ?_)
  · have hf := oF hc hf
    refine k_aload_n E hl 0 dX9_wouldFine_14 rfl ?_
    obtain ⟨r_4, hg, hf⟩ := ob hf
    refine k_callVi (As := []) (rest := []) (ws2 := fun u => wModel k a_th th_2) (c_X9_timeOfHearing n l k a_th th_2 r_4 hg) E vl_X9_297 dX9_wouldFine_15 rfl [0, 1, 2, 3, 4, 5, 6, 7, 8, 9, 10, 11, 12] 7 0 hW hA hl rfl rfl rfl rfl ⟨by decide, by decide⟩ ⟨by decide, by decide⟩ (Nat.le_of_ble_eq_true rfl) rfl (fun _ => rfl) (fun _ => rfl) (fun r u H locs hp hW => ?_)
    cases hp
    have hW : WD k A s.heap (wModel k a_th th_2) H locs := hW
    refine k_istore_n (lv' := [(2, .int r_4), (0, .ref (a_th 0)), (1, .int v1_0)]) E rfl hl dX9_wouldFine_18 rfl (by decide) rfl (fun ls hl => ?_)
    refine k_iload_n E hl 0 dX9_wouldFine_19 rfl ?_
    refine lv_iconst (v := (-1 : Int32)) E.hx E.hb dX9_wouldFine_20 ic_m1 ?_
    refine lv_icmp_ne (tgt := 26) E.hx E.hb dX9_wouldFine_21 (by decide) (fun hc => ?_) (fun hc => ?_)
    · have hf := oF hc hf
      refine k_aload_n E hl 1 dX9_wouldFine_26 rfl ?_
      obtain ⟨th_5, hg, hf⟩ := ob hf
      refine k_callVv (As := []) (rest := []) (ws2 := fun u => wModel k a_th (u)) (c_X9_tries n l k a_th th_2 th_5 hg) E vl_X9_304 dX9_wouldFine_27 rfl [0, 1, 2, 3, 4, 5, 6, 7, 8, 9, 10, 11, 12] 7 0 hW hA hl rfl rfl rfl rfl ⟨by decide, by decide⟩ ⟨by decide, by decide⟩ (Nat.le_of_ble_eq_true rfl) rfl (fun _ => rfl) (fun _ => rfl) (fun u H locs hp hW => ?_)
      cases hp
      have hW : WD k A s.heap (wModel k a_th th_5) H locs := hW
      refine k_aload_n E hl 1 dX9_wouldFine_30 rfl ?_
      refine k_iload_n E hl 2 dX9_wouldFine_31 rfl ?_
      obtain ⟨th_6, eth_6, hf⟩ := oL hf
      refine pf_X9_32 (ws2 := wModel k a_th th_6) E hW 0 rfl rfl rfl (Nat.le_of_ble_eq_true rfl) dX9_wouldFine_32 (by rw [eth_6]; rfl) (fun H locs hW => ?_)
      refine k_aload_n E hl 1 dX9_wouldFine_35 rfl ?_
      refine lv_iconst (v := (0 : Int32)) E.hx E.hb dX9_wouldFine_36 ic_0 ?_
      obtain ⟨th_7, eth_7, hf⟩ := oL hf
      refine pf_X9_133 (ws2 := wModel k a_th th_7) E hW 0 rfl rfl rfl (Nat.le_of_ble_eq_true rfl) dX9_wouldFine_37 (by rw [eth_7]; rfl) (fun H locs hW => ?_)
      refine k_aload_n E hl 1 dX9_wouldFine_40 rfl ?_
      refine k_iload_n E hl 0 dX9_wouldFine_41 rfl ?_
      refine k_aload_n E hl 1 dX9_wouldFine_42 rfl ?_
      refine gf_X9_13 E hW 0 rfl rfl dX9_wouldFine_43 ?_
      refine lv_iconst (v := (0 : Int32)) E.hx E.hb dX9_wouldFine_46 ic_0 ?_
      obtain ⟨hin, hf⟩ := oI hf
      obtain ⟨x_8, ex_8, hf⟩ := oL hf
      refine k_iald E hW 2 rfl hin dX9_wouldFine_47 ?_
      refine k_topi ex_8 ?_
      refine lv_isub E.hx E.hb dX9_wouldFine_48 ?_
      obtain ⟨th_9, r_10, hg, hf⟩ := ob2 hf
      refine k_callVi (As := [.int (r_4 - x_8)]) (rest := []) (ws2 := fun u => wModel k a_th (u)) (c_X9_goesOn n l k a_th th_7 (r_4 - x_8) (th_9, r_10) hg) E vl_X9_217 dX9_wouldFine_49 rfl [0, 1, 2, 3, 4, 5, 6, 7, 8, 9, 10, 11, 12] 7 0 hW hA hl rfl rfl rfl rfl ⟨by decide, by decide⟩ ⟨by decide, by decide⟩ (Nat.le_of_ble_eq_true rfl) rfl (fun _ => rfl) (fun _ => rfl) (fun r u H locs hp hW => ?_)
      cases hp
      have hW : WD k A s.heap (wModel k a_th th_9) H locs := hW
      refine k_istore_n (lv' := [(3, .int r_10), (2, .int r_4), (0, .ref (a_th 0)), (1, .int v1_0)]) E rfl hl dX9_wouldFine_52 rfl (by decide) rfl (fun ls hl => ?_)
      refine k_aload_n E hl 2 dX9_wouldFine_53 rfl ?_
      refine lv_iconst (v := (-1 : Int32)) E.hx E.hb dX9_wouldFine_54 ic_m1 ?_
      obtain ⟨th_11, eth_11, hf⟩ := oL hf
      refine pf_X9_32 (ws2 := wModel k a_th th_11) E hW 0 rfl rfl rfl (Nat.le_of_ble_eq_true rfl) dX9_wouldFine_55 (by rw [eth_11]; rfl) (fun H locs hW => ?_)
      refine k_aload_n E hl 2 dX9_wouldFine_58 rfl ?_
      refine k_aload_n E hl 2 dX9_wouldFine_59 rfl ?_
      refine gf_X9_133 E hW 0 rfl rfl dX9_wouldFine_60 ?_
      obtain ⟨th_12, r_13, hg, hf⟩ := ob2 hf
      refine k_callVi (As := [.int (th_11.1 18)]) (rest := []) (ws2 := fun u => wModel k a_th (u)) (c_X9_laysBack n l k a_th th_11 (th_11.1 18) (th_12, r_13) hg) E vl_X9_307 dX9_wouldFine_63 rfl [0, 1, 2, 3, 4, 5, 6, 7, 8, 9, 10, 11, 12] 7 0 hW hA hl rfl rfl rfl rfl ⟨by decide, by decide⟩ ⟨by decide, by decide⟩ (Nat.le_of_ble_eq_true rfl) rfl (fun _ => rfl) (fun _ => rfl) (fun r u H locs hp hW => ?_)
      cases hp
      have hW : WD k A s.heap (wModel k a_th th_12) H locs := hW
      exact hret _ th_12 _ _ _ _ _ _ hW (Option.some.inj hf).symm rfl (by decide) (by decide) dX9_wouldFine_66
    · have hf := oT hc hf
      refine lv_iconst (v := (0 : Int32)) E.hx E.hb dX9_wouldFine_24 ic_0 ?_
      exact hret _ th_2 _ _ _ _ _ _ hW (Option.some.inj hf).symm rfl (by decide) (by decide) dX9_wouldFine_25
  · have hf := oT hc hf
    refine lv_iconst (v := (0 : Int32)) E.hx E.hb dX9_wouldFine_12 ic_0 ?_
    exact hret _ th_2 _ _ _ _ _ _ hW (Option.some.inj hf).symm rfl (by decide) (by decide) dX9_wouldFine_13
def j_X9_processIn_76 (n : Nat) (th_j76 : OS) (s0_j76 : Int32) : Option (OS × Int32) :=
  bnd2 (f_X9_laysBack n th_j76 s0_j76) (fun (th_10 : OS) (r_11 : Int32) =>
  some (th_10, r_11))
def j_X9_processIn_37 (n : Nat) (v1_0 : Int32) (v2_0 : Int32) (v3_0 : Int32) (th_j37 : OS) (s1_j37 : Int32) : Option (OS × Int32) :=
  bnd2 (f_X9_may n th_j37 s1_j37 (2 : Int32)) (fun (th_5 : OS) (r_6 : Int32) =>
  if r_6 = 0 then (
  some (th_5, (0 : Int32))) else (
  bnd (f_X9_tries n th_5) (fun (th_7 : OS) =>
  bnd2 (f_X9_goesOn n th_7 v2_0) (fun (th_8 : OS) (r_9 : Int32) =>
  if v3_0 = (2 : Int32) then (
  bnd (f_X9_pagesOfAll n th_8 v1_0) (fun (r_13 : Int32) =>
  j_X9_processIn_76 n th_8 r_13)) else (
  bnd (f_X9_process0 n th_8 v1_0 v3_0) (fun (r_12 : Int32) =>
  j_X9_processIn_76 n th_8 r_12))))))
def f_X9_processIn (n : Nat) (th_0 : OS) (v1_0 : Int32) (v2_0 : Int32) (v3_0 : Int32) : Option (OS × Int32) :=
  bnd (f_X9_isProcess n th_0 v1_0) (fun (r_1 : Int32) =>
  bnd2 (f_X9_is n th_0 r_1) (fun (th_2 : OS) (r_3 : Int32) =>
  if r_3 = 0 then (
  some (th_2, (0 : Int32))) else (
  bnd (f_X9_areTicks n v2_0) (fun (r_4 : Int32) =>
  if r_4 = 0 then (
  j_X9_processIn_37 n v1_0 v2_0 v3_0 th_2 (0 : Int32)) else (
  bnd (f_X9_isIn n ((v3_0).toInt64) (0 : Int64) (2 : Int64)) (fun (r_14 : Int32) =>
  if r_14 = 0 then (
  j_X9_processIn_37 n v1_0 v2_0 v3_0 th_2 (0 : Int32)) else (
  j_X9_processIn_37 n v1_0 v2_0 v3_0 th_2 (1 : Int32))))))))
set_option maxHeartbeats 4000000 in
set_option maxRecDepth 100000 in
theorem c_X9_processIn (n : Nat) (l : Launch) (k : KT) (a_th : Nat → Nat) (th_0 : OS) (v1_0 : Int32) (v2_0 : Int32) (v3_0 : Int32) (res : (OS × Int32)) (hf : f_X9_processIn n th_0 v1_0 v2_0 v3_0 = some res) : CG l k yX9_processIn cX9_processIn 6 (some .int) 8 0 0 179 [.ref (a_th 0), .int v1_0, .int v2_0, .int v3_0] (wModel k a_th th_0) (Qi k (fun u : OS => wModel k a_th u) (fun (r : Int32) (u : OS) => res = (u, r))) := by
  refine CG.ofI (by decide) (Nat.le_of_ble_eq_true rfl) (fun p e s m args below meth c A Q E hnm hW hA hret ls hl => ?_)
  have hl : lv_has ls 6 [(0, .ref (a_th 0)), (1, .int v1_0), (2, .int v2_0), (3, .int v3_0)] := hl
  unfold f_X9_processIn at hf
  refine k_aload_n E hl 0 dX9_processIn_0 rfl ?_
  refine k_aload_n E hl 0 dX9_processIn_1 rfl ?_
  refine k_iload_n E hl 1 dX9_processIn_2 rfl ?_
  obtain ⟨r_1, hg, hf⟩ := ob hf
  refine k_callVi (As := [.int v1_0]) (rest := [.ref (a_th 0)]) (ws2 := fun u => wModel k a_th th_0) (c_X9_isProcess n l k a_th th_0 v1_0 r_1 hg) E vl_X9_223 dX9_processIn_3 rfl [0, 1, 2, 3, 4, 5, 6, 7, 8, 9, 10, 11, 12] 7 0 hW hA hl rfl rfl rfl rfl ⟨by decide, by decide⟩ ⟨by decide, by decide⟩ (Nat.le_of_ble_eq_true rfl) rfl (fun _ => rfl) (fun _ => rfl) (fun r u H locs hp hW => ?_)
  cases hp
  have hW : WD k A s.heap (wModel k a_th th_0) H locs := hW
  obtain ⟨th_2, r_3, hg, hf⟩ := ob2 hf
  refine k_callVi (As := [.int r_1]) (rest := []) (ws2 := fun u => wModel k a_th (u)) (c_X9_is n l k a_th th_0 r_1 (th_2, r_3) hg) E vl_X9_77 dX9_processIn_6 rfl [0, 1, 2, 3, 4, 5, 6, 7, 8, 9, 10, 11, 12] 7 0 hW hA hl rfl rfl rfl rfl ⟨by decide, by decide⟩ ⟨by decide, by decide⟩ (Nat.le_of_ble_eq_true rfl) rfl (fun _ => rfl) (fun _ => rfl) (fun r u H locs hp hW => ?_)
  cases hp
  have hW : WD k A s.heap (wModel k a_th th_2) H locs := hW
  refine lv_if_eq (tgt := 44) E.hx E.hb dX9_processIn_9 (by decide) (fun hc => ?_) (fun hc => ?_)
  · have hf := oT hc hf
    refine lv_iconst (v := (0 : Int32)) E.hx E.hb dX9_processIn_44 ic_0 ?_
    exact hret _ th_2 _ _ _ _ _ _ hW (Option.some.inj hf).symm rfl (by decide) (by decide) dX9_processIn_45
  · have hf := oF hc hf
    refine k_aload_n E hl 0 dX9_processIn_12 rfl ?_
    refine k_iload_n E hl 2 dX9_processIn_13 rfl ?_
    obtain ⟨r_4, hg, hf⟩ := ob hf
    refine k_callSi (As := [.int v2_0]) (rest := [.ref (a_th 0)]) (ws2 := fun u => wModel k a_th th_2) (c_X9_areTicks n l k v2_0 r_4 hg) E sl_X9_207 dX9_processIn_14 rfl [] hW hA hl rfl rfl ⟨by decide, by decide⟩ ⟨by decide, by decide⟩ (Nat.le_of_ble_eq_true rfl) rfl (fun _ => rfl) (fun _ => rfl) (fun r u H locs hp hW => ?_)
    cases hp
    have hW : WD k A s.heap (wModel k a_th th_2) H locs := hW
    have J_37 : ∀ (th_j37 : OS) (s1_j37 : Int32) (H : Heap) (locs : List Loc) (ls : Array Slot) (hW : WD k A s.heap (wModel k a_th th_j37) H locs) (hl : lv_has ls 6 [(0, .ref (a_th 0)), (1, .int v1_0), (2, .int v2_0), (3, .int v3_0)]) (hf : j_X9_processIn_37 n v1_0 v2_0 v3_0 th_j37 s1_j37 = some res), W p l e { frames := 8, cells := 0, slots := 0, locals := 179 } s m args below meth c H locs 0 0 Q (F0 m 37 ls [.int s1_j37, .ref (a_th 0)]) := by
      intro th_j37 s1_j37 H locs ls hW hl hf
      unfold j_X9_processIn_37 at hf
      refine lv_iconst (v := (2 : Int32)) E.hx E.hb dX9_processIn_37 ic_2 ?_
      obtain ⟨th_5, r_6, hg, hf⟩ := ob2 hf
      refine k_callVi (As := [.int s1_j37, .int (2 : Int32)]) (rest := []) (ws2 := fun u => wModel k a_th (u)) (c_X9_may n l k a_th th_j37 s1_j37 (2 : Int32) (th_5, r_6) hg) E vl_X9_210 dX9_processIn_38 rfl [0, 1, 2, 3, 4, 5, 6, 7, 8, 9, 10, 11, 12] 7 0 hW hA hl rfl rfl rfl rfl ⟨by decide, by decide⟩ ⟨by decide, by decide⟩ (Nat.le_of_ble_eq_true rfl) rfl (fun _ => rfl) (fun _ => rfl) (fun r u H locs hp hW => ?_)
      cases hp
      have hW : WD k A s.heap (wModel k a_th th_5) H locs := hW
      refine lv_if_ne (tgt := 46) E.hx E.hb dX9_processIn_41 (by decide) (fun hc => ?_) (fun hc => ?_)
      · have hf := oF hc hf
        refine k_aload_n E hl 0 dX9_processIn_46 rfl ?_
        obtain ⟨th_7, hg, hf⟩ := ob hf
        refine k_callVv (As := []) (rest := []) (ws2 := fun u => wModel k a_th (u)) (c_X9_tries n l k a_th th_5 th_7 hg) E vl_X9_304 dX9_processIn_47 rfl [0, 1, 2, 3, 4, 5, 6, 7, 8, 9, 10, 11, 12] 7 0 hW hA hl rfl rfl rfl rfl ⟨by decide, by decide⟩ ⟨by decide, by decide⟩ (Nat.le_of_ble_eq_true rfl) rfl (fun _ => rfl) (fun _ => rfl) (fun u H locs hp hW => ?_)
        cases hp
        have hW : WD k A s.heap (wModel k a_th th_7) H locs := hW
        refine k_aload_n E hl 0 dX9_processIn_50 rfl ?_
        refine k_iload_n E hl 2 dX9_processIn_51 rfl ?_
        obtain ⟨th_8, r_9, hg, hf⟩ := ob2 hf
        refine k_callVi (As := [.int v2_0]) (rest := []) (ws2 := fun u => wModel k a_th (u)) (c_X9_goesOn n l k a_th th_7 v2_0 (th_8, r_9) hg) E vl_X9_217 dX9_processIn_52 rfl [0, 1, 2, 3, 4, 5, 6, 7, 8, 9, 10, 11, 12] 7 0 hW hA hl rfl rfl rfl rfl ⟨by decide, by decide⟩ ⟨by decide, by decide⟩ (Nat.le_of_ble_eq_true rfl) rfl (fun _ => rfl) (fun _ => rfl) (fun r u H locs hp hW => ?_)
        cases hp
        have hW : WD k A s.heap (wModel k a_th th_8) H locs := hW
        refine k_istore (lv' := [(4, .int r_9), (0, .ref (a_th 0)), (1, .int v1_0), (2, .int v2_0), (3, .int v3_0)]) E rfl hl dX9_processIn_55 (by decide) rfl (fun ls hl => ?_)
        refine k_iload_n E hl 4 dX9_processIn_57 rfl ?_
        refine lv_iconst (v := (2 : Int32)) E.hx E.hb dX9_processIn_58 ic_2 ?_
        have J_76 : ∀ (th_j76 : OS) (s0_j76 : Int32) (H : Heap) (locs : List Loc) (ls : Array Slot) (hW : WD k A s.heap (wModel k a_th th_j76) H locs) (hl : lv_has ls 6 [(0, .ref (a_th 0))]) (hf : j_X9_processIn_76 n  th_j76 s0_j76 = some res), W p l e { frames := 8, cells := 0, slots := 0, locals := 179 } s m args below meth c H locs 0 0 Q (F0 m 76 ls [.int s0_j76]) := by
          intro th_j76 s0_j76 H locs ls hW hl hf
          unfold j_X9_processIn_76 at hf
          refine k_istore (lv' := [(5, .int s0_j76), (0, .ref (a_th 0))]) E rfl hl dX9_processIn_76 (by decide) rfl (fun ls hl => ?_)
          refine k_aload_n E hl 1 dX9_processIn_78 rfl ?_
          refine k_iload E hl 0 dX9_processIn_79 rfl ?_
          obtain ⟨th_10, r_11, hg, hf⟩ := ob2 hf
          refine k_callVi (As := [.int s0_j76]) (rest := []) (ws2 := fun u => wModel k a_th (u)) (c_X9_laysBack n l k a_th th_j76 s0_j76 (th_10, r_11) hg) E vl_X9_307 dX9_processIn_81 rfl [0, 1, 2, 3, 4, 5, 6, 7, 8, 9, 10, 11, 12] 7 0 hW hA hl rfl rfl rfl rfl ⟨by decide, by decide⟩ ⟨by decide, by decide⟩ (Nat.le_of_ble_eq_true rfl) rfl (fun _ => rfl) (fun _ => rfl) (fun r u H locs hp hW => ?_)
          cases hp
          have hW : WD k A s.heap (wModel k a_th th_10) H locs := hW
          exact hret _ th_10 _ _ _ _ _ _ hW (Option.some.inj hf).symm rfl (by decide) (by decide) dX9_processIn_84
        refine lv_icmp_ne (tgt := 70) E.hx E.hb dX9_processIn_59 (by decide) (fun hc => ?_) (fun hc => ?_)
        · have hf := oF hc hf
          refine k_aload_n E hl 1 dX9_processIn_70 rfl ?_
          refine k_iload_n E hl 2 dX9_processIn_71 rfl ?_
          refine k_iload_n E hl 4 dX9_processIn_72 rfl ?_
          obtain ⟨r_12, hg, hf⟩ := ob hf
          refine k_callVi (As := [.int v1_0, .int v3_0]) (rest := []) (ws2 := fun u => wModel k a_th th_8) (c_X9_process0 n l k a_th th_8 v1_0 v3_0 r_12 hg) E vl_X9_120 dX9_processIn_73 rfl [0, 1, 2, 3, 4, 5, 6, 7, 8, 9, 10, 11, 12] 7 0 hW hA hl rfl rfl rfl rfl ⟨by decide, by decide⟩ ⟨by decide, by decide⟩ (Nat.le_of_ble_eq_true rfl) rfl (fun _ => rfl) (fun _ => rfl) (fun r u H locs hp hW => ?_)
          cases hp
          have hW : WD k A s.heap (wModel k a_th th_8) H locs := hW
          exact J_76 th_8 r_12 _ _ _ hW (lv_sub hl [1] rfl) hf
        · have hf := oT hc hf
          refine k_aload_n E hl 1 dX9_processIn_62 rfl ?_
          refine k_iload_n E hl 2 dX9_processIn_63 rfl ?_
          obtain ⟨r_13, hg, hf⟩ := ob hf
          refine k_callVi (As := [.int v1_0]) (rest := []) (ws2 := fun u => wModel k a_th th_8) (c_X9_pagesOfAll n l k a_th th_8 v1_0 r_13 hg) E vl_X9_283 dX9_processIn_64 rfl [0, 1, 2, 3, 4, 5, 6, 7, 8, 9, 10, 11, 12] 7 0 hW hA hl rfl rfl rfl rfl ⟨by decide, by decide⟩ ⟨by decide, by decide⟩ (Nat.le_of_ble_eq_true rfl) rfl (fun _ => rfl) (fun _ => rfl) (fun r u H locs hp hW => ?_)
          cases hp
          have hW : WD k A s.heap (wModel k a_th th_8) H locs := hW
          refine lv_goto (tgt := 76) E.hx E.hb dX9_processIn_67 (by decide) ?_
          exact J_76 th_8 r_13 _ _ _ hW (lv_sub hl [1] rfl) hf
      · have hf := oT hc hf
        refine lv_iconst (v := (0 : Int32)) E.hx E.hb dX9_processIn_44 ic_0 ?_
        exact hret _ th_5 _ _ _ _ _ _ hW (Option.some.inj hf).symm rfl (by decide) (by decide) dX9_processIn_45
    refine lv_if_eq (tgt := 36) E.hx E.hb dX9_processIn_17 (by decide) (fun hc => ?_) (fun hc => ?_)
    · have hf := oT hc hf
      refine lv_iconst (v := (0 : Int32)) E.hx E.hb dX9_processIn_36 ic_0 ?_
      exact J_37 th_2 (0 : Int32) _ _ _ hW (lv_sub hl [0, 1, 2, 3] rfl) hf
    · have hf := oF hc hf
      refine k_iload_n E hl 3 dX9_processIn_20 rfl ?_
      refine lv_i2l (v := (v3_0).toInt64) E.hx E.hb dX9_processIn_21 rfl ?_
      refine lv_lconst (v := (0 : Int64)) E.hx E.hb dX9_processIn_22 (by decide) ?_
      refine lv_ldc2 E.hx E.hb E.ho (E.w tm_1675 rfl) dX9_processIn_23 ?_
      obtain ⟨r_14, hg, hf⟩ := ob hf
      refine k_callSi (As := [.long ((v3_0).toInt64), .long (0 : Int64), .long (2 : Int64)]) (rest := [.ref (a_th 0)]) (ws2 := fun u => wModel k a_th th_2) (c_X9_isIn n l k ((v3_0).toInt64) (0 : Int64) (2 : Int64) r_14 hg) E sl_X9_92 dX9_processIn_26 rfl [] hW hA hl rfl rfl ⟨by decide, by decide⟩ ⟨by decide, by decide⟩ (Nat.le_of_ble_eq_true rfl) rfl (fun _ => rfl) (fun _ => rfl) (fun r u H locs hp hW => ?_)
      cases hp
      have hW : WD k A s.heap (wModel k a_th th_2) H locs := hW
      refine lv_if_eq (tgt := 36) E.hx E.hb dX9_processIn_29 (by decide) (fun hc => ?_) (fun hc => ?_)
      · have hf := oT hc hf
        refine lv_iconst (v := (0 : Int32)) E.hx E.hb dX9_processIn_36 ic_0 ?_
        exact J_37 th_2 (0 : Int32) _ _ _ hW (lv_sub hl [0, 1, 2, 3] rfl) hf
      · have hf := oF hc hf
        refine lv_iconst (v := (1 : Int32)) E.hx E.hb dX9_processIn_32 ic_1 ?_
        refine lv_goto (tgt := 37) E.hx E.hb dX9_processIn_33 (by decide) ?_
        exact J_37 th_2 (1 : Int32) _ _ _ hW (lv_sub hl [0, 1, 2, 3] rfl) hf
def s_X9_bestOrder_20 (n : Nat) (w1_j20 : Int32) (rc_20 : (OS) → (Int32) → (Int32) → (Int32) → Option (OS × Int32)) (th_j20 : OS) (w2_j20 : Int32) (w3_j20 : Int32) (w4_j20 : Int32) : Option (OS × Int32) :=
  if (2 : Int32) < w4_j20 then (
  some (th_j20, w2_j20)) else (
  bnd (f_X9_tries n th_j20) (fun (th_4 : OS) =>
  gI 1846 (1 : Int32) (Let (sA th_4 9 (upd (th_4.2.1 9) (1 : Int32).toNatClampNeg w4_j20)) (fun th_5 : OS =>
  bnd2 (f_X9_goesOn n th_5 w1_j20) (fun (th_6 : OS) (r_7 : Int32) =>
  bnd2 (f_X9_laysBack n th_6 r_7) (fun (th_8 : OS) (r_9 : Int32) =>
  if w3_j20 < r_9 then (
  Let (w4_j20 + (1 : Int32)) (fun v4_10 : Int32 =>
  rc_20 th_8 w4_j20 r_9 v4_10)) else (
  Let (w4_j20 + (1 : Int32)) (fun v4_11 : Int32 =>
  rc_20 th_8 w2_j20 w3_j20 v4_11))))))))
def l_X9_bestOrder_20 (n : Nat) (w1_j20 : Int32) : Nat → (OS) → (Int32) → (Int32) → (Int32) → Option (OS × Int32)
  | 0 => fun _ _ _ _ => none
  | N + 1 => s_X9_bestOrder_20 n w1_j20 (l_X9_bestOrder_20 n w1_j20 N)
def f_X9_bestOrder (n : Nat) (th_0 : OS) (v1_0 : Int32) : Option (OS × Int32) :=
  bnd (f_X9_areTicks n v1_0) (fun (r_1 : Int32) =>
  bnd2 (f_X9_is n th_0 r_1) (fun (th_2 : OS) (r_3 : Int32) =>
  if r_3 = 0 then (
  some (th_2, (0 : Int32))) else (
  l_X9_bestOrder_20 n v1_0 n th_2 (0 : Int32) (-1 : Int32) (0 : Int32))))
set_option maxHeartbeats 4000000 in
set_option maxRecDepth 100000 in
theorem c_X9_bestOrder (n : Nat) (l : Launch) (k : KT) (a_th : Nat → Nat) (th_0 : OS) (v1_0 : Int32) (res : (OS × Int32)) (hf : f_X9_bestOrder n th_0 v1_0 = some res) : CG l k yX9_bestOrder cX9_bestOrder 6 (some .int) 8 0 0 179 [.ref (a_th 0), .int v1_0] (wModel k a_th th_0) (Qi k (fun u : OS => wModel k a_th u) (fun (r : Int32) (u : OS) => res = (u, r))) := by
  refine CG.ofI (by decide) (Nat.le_of_ble_eq_true rfl) (fun p e s m args below meth c A Q E hnm hW hA hret ls hl => ?_)
  have hl : lv_has ls 6 [(0, .ref (a_th 0)), (1, .int v1_0)] := hl
  unfold f_X9_bestOrder at hf
  refine k_aload_n E hl 0 dX9_bestOrder_0 rfl ?_
  refine k_iload_n E hl 1 dX9_bestOrder_1 rfl ?_
  obtain ⟨r_1, hg, hf⟩ := ob hf
  refine k_callSi (As := [.int v1_0]) (rest := [.ref (a_th 0)]) (ws2 := fun u => wModel k a_th th_0) (c_X9_areTicks n l k v1_0 r_1 hg) E sl_X9_207 dX9_bestOrder_2 rfl [] hW hA hl rfl rfl ⟨by decide, by decide⟩ ⟨by decide, by decide⟩ (Nat.le_of_ble_eq_true rfl) rfl (fun _ => rfl) (fun _ => rfl) (fun r u H locs hp hW => ?_)
  cases hp
  have hW : WD k A s.heap (wModel k a_th th_0) H locs := hW
  obtain ⟨th_2, r_3, hg, hf⟩ := ob2 hf
  refine k_callVi (As := [.int r_1]) (rest := []) (ws2 := fun u => wModel k a_th (u)) (c_X9_is n l k a_th th_0 r_1 (th_2, r_3) hg) E vl_X9_77 dX9_bestOrder_5 rfl [0, 1, 2, 3, 4, 5, 6, 7, 8, 9, 10, 11, 12] 7 0 hW hA hl rfl rfl rfl rfl ⟨by decide, by decide⟩ ⟨by decide, by decide⟩ (Nat.le_of_ble_eq_true rfl) rfl (fun _ => rfl) (fun _ => rfl) (fun r u H locs hp hW => ?_)
  cases hp
  have hW : WD k A s.heap (wModel k a_th th_2) H locs := hW
  refine lv_if_ne (tgt := 13) E.hx E.hb dX9_bestOrder_8 (by decide) (fun hc => ?_) (fun hc => ?_)
  · have hf := oF hc hf
    refine lv_iconst (v := (0 : Int32)) E.hx E.hb dX9_bestOrder_13 ic_0 ?_
    refine k_istore_n (lv' := [(2, .int (0 : Int32)), (0, .ref (a_th 0)), (1, .int v1_0)]) E rfl hl dX9_bestOrder_14 rfl (by decide) rfl (fun ls hl => ?_)
    refine lv_iconst (v := (-1 : Int32)) E.hx E.hb dX9_bestOrder_15 ic_m1 ?_
    refine k_istore_n (lv' := [(3, .int (-1 : Int32)), (2, .int (0 : Int32)), (0, .ref (a_th 0)), (1, .int v1_0)]) E rfl hl dX9_bestOrder_16 rfl (by decide) rfl (fun ls hl => ?_)
    refine lv_iconst (v := (0 : Int32)) E.hx E.hb dX9_bestOrder_17 ic_0 ?_
    refine k_istore (lv' := [(4, .int (0 : Int32)), (3, .int (-1 : Int32)), (2, .int (0 : Int32)), (0, .ref (a_th 0)), (1, .int v1_0)]) E rfl hl dX9_bestOrder_18 (by decide) rfl (fun ls hl => ?_)
    have L_20 : ∀ (N_20 : Nat) (th_j20 : OS) (w2_j20 : Int32) (w3_j20 : Int32) (w4_j20 : Int32) (H : Heap) (locs : List Loc) (ls : Array Slot) (hW : WD k A s.heap (wModel k a_th th_j20) H locs) (hl : lv_has ls 6 [(0, .ref (a_th 0)), (1, .int v1_0), (2, .int w2_j20), (3, .int w3_j20), (4, .int w4_j20)]) (hf : l_X9_bestOrder_20 n v1_0 N_20 th_j20 w2_j20 w3_j20 w4_j20 = some res), W p l e { frames := 8, cells := 0, slots := 0, locals := 179 } s m args below meth c H locs 0 0 Q (F0 m 20 ls []) := by
      intro N_20
      induction N_20 with
      | zero => intro th_j20 w2_j20 w3_j20 w4_j20 H locs ls hW hl hf; exact o0 hf
      | succ N_20 ih_20 =>
        intro th_j20 w2_j20 w3_j20 w4_j20 H locs ls hW hl hf
        have hf : s_X9_bestOrder_20 n v1_0 (l_X9_bestOrder_20 n v1_0 N_20) th_j20 w2_j20 w3_j20 w4_j20 = some res := hf
        unfold s_X9_bestOrder_20 at hf
        refine k_iload E hl 4 dX9_bestOrder_20 rfl ?_
        refine lv_iconst (v := (2 : Int32)) E.hx E.hb dX9_bestOrder_22 ic_2 ?_
        refine lv_icmp_gt (tgt := 70) E.hx E.hb dX9_bestOrder_23 (by decide) (fun hc => ?_) (fun hc => ?_)
        · have hf := oT hc hf
          refine k_iload_n E hl 2 dX9_bestOrder_70 rfl ?_
          exact hret _ th_j20 _ _ _ _ _ _ hW (Option.some.inj hf).symm rfl (by decide) (by decide) dX9_bestOrder_71
        · have hf := oF hc hf
          refine k_aload_n E hl 0 dX9_bestOrder_26 rfl ?_
          obtain ⟨th_4, hg, hf⟩ := ob hf
          refine k_callVv (As := []) (rest := []) (ws2 := fun u => wModel k a_th (u)) (c_X9_tries n l k a_th th_j20 th_4 hg) E vl_X9_304 dX9_bestOrder_27 rfl [0, 1, 2, 3, 4, 5, 6, 7, 8, 9, 10, 11, 12] 7 0 hW hA hl rfl rfl rfl rfl ⟨by decide, by decide⟩ ⟨by decide, by decide⟩ (Nat.le_of_ble_eq_true rfl) rfl (fun _ => rfl) (fun _ => rfl) (fun u H locs hp hW => ?_)
          cases hp
          have hW : WD k A s.heap (wModel k a_th th_4) H locs := hW
          refine k_aload_n E hl 0 dX9_bestOrder_30 rfl ?_
          refine gf_X9_13 E hW 0 rfl rfl dX9_bestOrder_31 ?_
          refine lv_iconst (v := (1 : Int32)) E.hx E.hb dX9_bestOrder_34 ic_1 ?_
          refine k_iload E hl 4 dX9_bestOrder_35 rfl ?_
          obtain ⟨hin, hf⟩ := oI hf
          obtain ⟨th_5, eth_5, hf⟩ := oL hf
          refine k_iast (ws2 := wModel k a_th th_5) E hW 2 rfl hin dX9_bestOrder_37 (by rw [eth_5]; rfl) (fun H locs hW => ?_)
          refine k_aload_n E hl 0 dX9_bestOrder_38 rfl ?_
          refine k_aload_n E hl 0 dX9_bestOrder_39 rfl ?_
          refine k_iload_n E hl 1 dX9_bestOrder_40 rfl ?_
          obtain ⟨th_6, r_7, hg, hf⟩ := ob2 hf
          refine k_callVi (As := [.int v1_0]) (rest := [.ref (a_th 0)]) (ws2 := fun u => wModel k a_th (u)) (c_X9_goesOn n l k a_th th_5 v1_0 (th_6, r_7) hg) E vl_X9_217 dX9_bestOrder_41 rfl [0, 1, 2, 3, 4, 5, 6, 7, 8, 9, 10, 11, 12] 7 0 hW hA hl rfl rfl rfl rfl ⟨by decide, by decide⟩ ⟨by decide, by decide⟩ (Nat.le_of_ble_eq_true rfl) rfl (fun _ => rfl) (fun _ => rfl) (fun r u H locs hp hW => ?_)
          cases hp
          have hW : WD k A s.heap (wModel k a_th th_6) H locs := hW
          obtain ⟨th_8, r_9, hg, hf⟩ := ob2 hf
          refine k_callVi (As := [.int r_7]) (rest := []) (ws2 := fun u => wModel k a_th (u)) (c_X9_laysBack n l k a_th th_6 r_7 (th_8, r_9) hg) E vl_X9_307 dX9_bestOrder_44 rfl [0, 1, 2, 3, 4, 5, 6, 7, 8, 9, 10, 11, 12] 7 0 hW hA hl rfl rfl rfl rfl ⟨by decide, by decide⟩ ⟨by decide, by decide⟩ (Nat.le_of_ble_eq_true rfl) rfl (fun _ => rfl) (fun _ => rfl) (fun r u H locs hp hW => ?_)
          cases hp
          have hW : WD k A s.heap (wModel k a_th th_8) H locs := hW
          refine k_istore (lv' := [(5, .int r_9), (0, .ref (a_th 0)), (1, .int v1_0), (2, .int w2_j20), (3, .int w3_j20), (4, .int w4_j20)]) E rfl hl dX9_bestOrder_47 (by decide) rfl (fun ls hl => ?_)
          refine k_iload E hl 0 dX9_bestOrder_49 rfl ?_
          refine k_iload_n E hl 4 dX9_bestOrder_51 rfl ?_
          refine lv_icmp_gt (tgt := 58) E.hx E.hb dX9_bestOrder_52 (by decide) (fun hc => ?_) (fun hc => ?_)
          · have hf := oT hc hf
            refine k_iload E hl 5 dX9_bestOrder_58 rfl ?_
            refine k_istore_n (lv' := [(2, .int w4_j20), (5, .int r_9), (0, .ref (a_th 0)), (1, .int v1_0), (3, .int w3_j20), (4, .int w4_j20)]) E rfl hl dX9_bestOrder_60 rfl (by decide) rfl (fun ls hl => ?_)
            refine k_iload E hl 1 dX9_bestOrder_61 rfl ?_
            refine k_istore_n (lv' := [(3, .int r_9), (2, .int w4_j20), (5, .int r_9), (0, .ref (a_th 0)), (1, .int v1_0), (4, .int w4_j20)]) E rfl hl dX9_bestOrder_63 rfl (by decide) rfl (fun ls hl => ?_)
            obtain ⟨v4_10, ev4_10, hf⟩ := oL hf
            refine k_iinc (lv' := [(4, .int v4_10), (3, .int r_9), (2, .int w4_j20), (5, .int r_9), (0, .ref (a_th 0)), (1, .int v1_0)]) E hl 5 dX9_bestOrder_64 rfl (ev4_10.trans (congrArg (fun z => w4_j20 + z) ic_1.symm)) (by decide) rfl (fun ls hl => ?_)
            refine lv_goto (tgt := 20) E.hx E.hb dX9_bestOrder_67 (by decide) ?_
            exact ih_20 th_8 w4_j20 r_9 v4_10 _ _ _ hW (lv_sub hl [4, 5, 2, 1, 0] rfl) hf
          · have hf := oF hc hf
            refine lv_goto (tgt := 64) E.hx E.hb dX9_bestOrder_55 (by decide) ?_
            obtain ⟨v4_11, ev4_11, hf⟩ := oL hf
            refine k_iinc (lv' := [(4, .int v4_11), (5, .int r_9), (0, .ref (a_th 0)), (1, .int v1_0), (2, .int w2_j20), (3, .int w3_j20)]) E hl 5 dX9_bestOrder_64 rfl (ev4_11.trans (congrArg (fun z => w4_j20 + z) ic_1.symm)) (by decide) rfl (fun ls hl => ?_)
            refine lv_goto (tgt := 20) E.hx E.hb dX9_bestOrder_67 (by decide) ?_
            exact ih_20 th_8 w2_j20 w3_j20 v4_11 _ _ _ hW (lv_sub hl [2, 3, 4, 5, 0] rfl) hf
    exact L_20 n th_2 (0 : Int32) (-1 : Int32) (0 : Int32) _ _ _ hW (lv_sub hl [3, 4, 2, 1, 0] rfl) hf
  · have hf := oT hc hf
    refine lv_iconst (v := (0 : Int32)) E.hx E.hb dX9_bestOrder_11 ic_0 ?_
    exact hret _ th_2 _ _ _ _ _ _ hW (Option.some.inj hf).symm rfl (by decide) (by decide) dX9_bestOrder_12
def j_X9_doesHelp_42 (n : Nat) (th_j42 : OS) (s0_j42 : Int32) : Option (OS × Int32) :=
  bnd (f_X9_copies n 1846 (th_j42.2.1 12) 1846 (th_j42.2.1 9)) (fun (y_8 : Nat → Int32) =>
  Let (sA th_j42 9 y_8) (fun th_9 : OS =>
  gZ s0_j42 (some (th_9, s0_j42))))
def f_X9_doesHelp (n : Nat) (th_0 : OS) (v1_0 : Int32) (v2_0 : Int32) (v3_0 : Int32) : Option (OS × Int32) :=
  bnd (f_X9_tries n th_0) (fun (th_1 : OS) =>
  bnd (f_X9_frees n th_1 v1_0 v2_0) (fun (th_2 : OS) =>
  bnd (f_X9_timeOfHearing n th_2) (fun (r_3 : Int32) =>
  gI 1846 (0 : Int32) (Let ((th_2.2.1 9) (0 : Int32).toNatClampNeg) (fun x_4 : Int32 =>
  bnd2 (f_X9_goesOn n th_2 (r_3 - x_4)) (fun (th_5 : OS) (r_6 : Int32) =>
  bnd (f_X9_claim0 n th_5 v3_0 (3 : Int32)) (fun (r_7 : Int32) =>
  if r_7 = (1 : Int32) then (
  j_X9_doesHelp_42 n th_5 (1 : Int32)) else (
  j_X9_doesHelp_42 n th_5 (0 : Int32)))))))))
set_option maxHeartbeats 4000000 in
set_option maxRecDepth 100000 in
theorem c_X9_doesHelp (n : Nat) (l : Launch) (k : KT) (a_th : Nat → Nat) (th_0 : OS) (v1_0 : Int32) (v2_0 : Int32) (v3_0 : Int32) (res : (OS × Int32)) (hf : f_X9_doesHelp n th_0 v1_0 v2_0 v3_0 = some res) : CG l k yX9_doesHelp cX9_doesHelp 6 (some .boolean) 8 0 0 179 [.ref (a_th 0), .int v1_0, .int v2_0, .int v3_0] (wModel k a_th th_0) (Qi k (fun u : OS => wModel k a_th u) (fun (r : Int32) (u : OS) => res = (u, r))) := by
  refine CG.ofI (by decide) (Nat.le_of_ble_eq_true rfl) (fun p e s m args below meth c A Q E hnm hW hA hret ls hl => ?_)
  have hl : lv_has ls 6 [(0, .ref (a_th 0)), (1, .int v1_0), (2, .int v2_0), (3, .int v3_0)] := hl
  unfold f_X9_doesHelp at hf
  refine k_aload_n E hl 0 dX9_doesHelp_0 rfl ?_
  obtain ⟨th_1, hg, hf⟩ := ob hf
  refine k_callVv (As := []) (rest := []) (ws2 := fun u => wModel k a_th (u)) (c_X9_tries n l k a_th th_0 th_1 hg) E vl_X9_304 dX9_doesHelp_1 rfl [0, 1, 2, 3, 4, 5, 6, 7, 8, 9, 10, 11, 12] 7 0 hW hA hl rfl rfl rfl rfl ⟨by decide, by decide⟩ ⟨by decide, by decide⟩ (Nat.le_of_ble_eq_true rfl) rfl (fun _ => rfl) (fun _ => rfl) (fun u H locs hp hW => ?_)
  cases hp
  have hW : WD k A s.heap (wModel k a_th th_1) H locs := hW
  refine k_aload_n E hl 0 dX9_doesHelp_4 rfl ?_
  refine k_iload_n E hl 1 dX9_doesHelp_5 rfl ?_
  refine k_iload_n E hl 2 dX9_doesHelp_6 rfl ?_
  obtain ⟨th_2, hg, hf⟩ := ob hf
  refine k_callVv (As := [.int v1_0, .int v2_0]) (rest := []) (ws2 := fun u => wModel k a_th (u)) (c_X9_frees n l k a_th th_1 v1_0 v2_0 th_2 hg) E vl_X9_155 dX9_doesHelp_7 rfl [0, 1, 2, 3, 4, 5, 6, 7, 8, 9, 10, 11, 12] 7 0 hW hA hl rfl rfl rfl rfl ⟨by decide, by decide⟩ ⟨by decide, by decide⟩ (Nat.le_of_ble_eq_true rfl) rfl (fun _ => rfl) (fun _ => rfl) (fun u H locs hp hW => ?_)
  cases hp
  have hW : WD k A s.heap (wModel k a_th th_2) H locs := hW
  refine k_aload_n E hl 0 dX9_doesHelp_10 rfl ?_
  refine k_aload_n E hl 0 dX9_doesHelp_11 rfl ?_
  obtain ⟨r_3, hg, hf⟩ := ob hf
  refine k_callVi (As := []) (rest := [.ref (a_th 0)]) (ws2 := fun u => wModel k a_th th_2) (c_X9_timeOfHearing n l k a_th th_2 r_3 hg) E vl_X9_297 dX9_doesHelp_12 rfl [0, 1, 2, 3, 4, 5, 6, 7, 8, 9, 10, 11, 12] 7 0 hW hA hl rfl rfl rfl rfl ⟨by decide, by decide⟩ ⟨by decide, by decide⟩ (Nat.le_of_ble_eq_true rfl) rfl (fun _ => rfl) (fun _ => rfl) (fun r u H locs hp hW => ?_)
  cases hp
  have hW : WD k A s.heap (wModel k a_th th_2) H locs := hW
  refine k_aload_n E hl 0 dX9_doesHelp_15 rfl ?_
  refine gf_X9_13 E hW 0 rfl rfl dX9_doesHelp_16 ?_
  refine lv_iconst (v := (0 : Int32)) E.hx E.hb dX9_doesHelp_19 ic_0 ?_
  obtain ⟨hin, hf⟩ := oI hf
  obtain ⟨x_4, ex_4, hf⟩ := oL hf
  refine k_iald E hW 2 rfl hin dX9_doesHelp_20 ?_
  refine k_topi ex_4 ?_
  refine lv_isub E.hx E.hb dX9_doesHelp_21 ?_
  obtain ⟨th_5, r_6, hg, hf⟩ := ob2 hf
  refine k_callVi (As := [.int (r_3 - x_4)]) (rest := []) (ws2 := fun u => wModel k a_th (u)) (c_X9_goesOn n l k a_th th_2 (r_3 - x_4) (th_5, r_6) hg) E vl_X9_217 dX9_doesHelp_22 rfl [0, 1, 2, 3, 4, 5, 6, 7, 8, 9, 10, 11, 12] 7 0 hW hA hl rfl rfl rfl rfl ⟨by decide, by decide⟩ ⟨by decide, by decide⟩ (Nat.le_of_ble_eq_true rfl) rfl (fun _ => rfl) (fun _ => rfl) (fun r u H locs hp hW => ?_)
  cases hp
  have hW : WD k A s.heap (wModel k a_th th_5) H locs := hW
  refine k_istore (lv' := [(4, .int r_6), (0, .ref (a_th 0)), (1, .int v1_0), (2, .int v2_0), (3, .int v3_0)]) E rfl hl dX9_doesHelp_25 (by decide) rfl (fun ls hl => ?_)
  refine k_aload_n E hl 1 dX9_doesHelp_27 rfl ?_
  refine k_iload_n E hl 4 dX9_doesHelp_28 rfl ?_
  refine lv_iconst (v := (3 : Int32)) E.hx E.hb dX9_doesHelp_29 ic_3 ?_
  obtain ⟨r_7, hg, hf⟩ := ob hf
  refine k_callVi (As := [.int v3_0, .int (3 : Int32)]) (rest := []) (ws2 := fun u => wModel k a_th th_5) (c_X9_claim0 n l k a_th th_5 v3_0 (3 : Int32) r_7 hg) E vl_X9_139 dX9_doesHelp_30 rfl [0, 1, 2, 3, 4, 5, 6, 7, 8, 9, 10, 11, 12] 7 0 hW hA hl rfl rfl rfl rfl ⟨by decide, by decide⟩ ⟨by decide, by decide⟩ (Nat.le_of_ble_eq_true rfl) rfl (fun _ => rfl) (fun _ => rfl) (fun r u H locs hp hW => ?_)
  cases hp
  have hW : WD k A s.heap (wModel k a_th th_5) H locs := hW
  refine lv_iconst (v := (1 : Int32)) E.hx E.hb dX9_doesHelp_33 ic_1 ?_
  have J_42 : ∀ (th_j42 : OS) (s0_j42 : Int32) (H : Heap) (locs : List Loc) (ls : Array Slot) (hW : WD k A s.heap (wModel k a_th th_j42) H locs) (hl : lv_has ls 6 [(0, .ref (a_th 0))]) (hf : j_X9_doesHelp_42 n  th_j42 s0_j42 = some res), W p l e { frames := 8, cells := 0, slots := 0, locals := 179 } s m args below meth c H locs 0 0 Q (F0 m 42 ls [.int s0_j42]) := by
    intro th_j42 s0_j42 H locs ls hW hl hf
    unfold j_X9_doesHelp_42 at hf
    refine k_istore (lv' := [(5, .int s0_j42), (0, .ref (a_th 0))]) E rfl hl dX9_doesHelp_42 (by decide) rfl (fun ls hl => ?_)
    refine k_aload_n E hl 1 dX9_doesHelp_44 rfl ?_
    refine gf_X9_23 E hW 0 rfl rfl dX9_doesHelp_45 ?_
    refine k_aload_n E hl 1 dX9_doesHelp_48 rfl ?_
    refine gf_X9_13 E hW 0 rfl rfl dX9_doesHelp_49 ?_
    obtain ⟨y_8, hg, hf⟩ := ob hf
    obtain ⟨th_9, eth_9, hf⟩ := oL hf
    refine k_callSv (As := [.ref (a_th 5), .ref (a_th 2)]) (rest := []) (ws2 := fun u => wModel k a_th (sA th_j42 9 (u))) (c_X9_copies n l k (fun j => a_th (5 + j)) (fun j => a_th (2 + j)) 1846 (th_j42.2.1 12) 1846 (th_j42.2.1 9) y_8 hg) E sl_X9_70 dX9_doesHelp_52 rfl [5, 2] hW hA hl rfl rfl ⟨by decide, by decide⟩ ⟨by decide, by decide⟩ (Nat.le_of_ble_eq_true rfl) rfl (fun _ => rfl) (fun _ => rfl) (fun u H locs hp hW => ?_)
    cases hp
    have hW : WD k A s.heap (wModel k a_th th_9) H locs := by rw [eth_9]; exact hW
    refine k_iload E hl 0 dX9_doesHelp_55 rfl ?_
    obtain ⟨hz, hf⟩ := oZ hf
    exact hret _ th_9 _ _ _ _ _ _ hW (Option.some.inj hf).symm hz (by decide) (by decide) dX9_doesHelp_57
  refine lv_icmp_ne (tgt := 41) E.hx E.hb dX9_doesHelp_34 (by decide) (fun hc => ?_) (fun hc => ?_)
  · have hf := oF hc hf
    refine lv_iconst (v := (0 : Int32)) E.hx E.hb dX9_doesHelp_41 ic_0 ?_
    exact J_42 th_5 (0 : Int32) _ _ _ hW (lv_sub hl [1] rfl) hf
  · have hf := oT hc hf
    refine lv_iconst (v := (1 : Int32)) E.hx E.hb dX9_doesHelp_37 ic_1 ?_
    refine lv_goto (tgt := 42) E.hx E.hb dX9_doesHelp_38 (by decide) ?_
    exact J_42 th_5 (1 : Int32) _ _ _ hW (lv_sub hl [1] rfl) hf
def s_X9_helps_57 (n : Nat) (w1_j57 : Int32) (w2_j57 : Int32) (w3_j57 : Int32) (rc_57 : (OS) → (Int32) → Option (OS × Int32)) (th_j57 : OS) (w4_j57 : Int32) : Option (OS × Int32) :=
  if w3_j57 < w4_j57 then (
  some (th_j57, (-1 : Int32))) else (
  bnd2 (f_X9_doesHelp n th_j57 w1_j57 w4_j57 w2_j57) (fun (th_7 : OS) (r_8 : Int32) =>
  if r_8 = 0 then (
  Let (w4_j57 + (1 : Int32)) (fun v4_9 : Int32 =>
  rc_57 th_7 v4_9)) else (
  some (th_7, w4_j57))))
def l_X9_helps_57 (n : Nat) (w1_j57 : Int32) (w2_j57 : Int32) (w3_j57 : Int32) : Nat → (OS) → (Int32) → Option (OS × Int32)
  | 0 => fun _ _ => none
  | N + 1 => s_X9_helps_57 n w1_j57 w2_j57 w3_j57 (l_X9_helps_57 n w1_j57 w2_j57 w3_j57 N)
def j_X9_helps_22 (n : Nat) (v1_0 : Int32) (v2_0 : Int32) (th_j22 : OS) (s1_j22 : Int32) : Option (OS × Int32) :=
  bnd2 (f_X9_is n th_j22 s1_j22) (fun (th_2 : OS) (r_3 : Int32) =>
  if r_3 = 0 then (
  some (th_2, (0 : Int32))) else (
  bnd (f_X9_doesWait n th_2 v2_0) (fun (r_4 : Int32) =>
  if r_4 = 0 then (
  some (th_2, (-1 : Int32))) else (
  bnd (f_X9_timeOfHearing n th_2) (fun (r_5 : Int32) =>
  if r_5 = (-1 : Int32) then (
  some (th_2, (-1 : Int32))) else (
  bnd (f_X9_pagesOf n th_2 v1_0) (fun (r_6 : Int32) =>
  l_X9_helps_57 n v1_0 v2_0 r_6 n th_2 (0 : Int32))))))))
def f_X9_helps (n : Nat) (th_0 : OS) (v1_0 : Int32) (v2_0 : Int32) : Option (OS × Int32) :=
  bnd (f_X9_isLoan n th_0 v1_0) (fun (r_1 : Int32) =>
  if r_1 = 0 then (
  j_X9_helps_22 n v1_0 v2_0 th_0 (0 : Int32)) else (
  bnd (f_X9_isClaim n th_0 v2_0) (fun (r_10 : Int32) =>
  if r_10 = 0 then (
  j_X9_helps_22 n v1_0 v2_0 th_0 (0 : Int32)) else (
  j_X9_helps_22 n v1_0 v2_0 th_0 (1 : Int32)))))
set_option maxHeartbeats 4000000 in
set_option maxRecDepth 100000 in
theorem c_X9_helps (n : Nat) (l : Launch) (k : KT) (a_th : Nat → Nat) (th_0 : OS) (v1_0 : Int32) (v2_0 : Int32) (res : (OS × Int32)) (hf : f_X9_helps n th_0 v1_0 v2_0 = some res) : CG l k yX9_helps cX9_helps 5 (some .int) 9 0 0 204 [.ref (a_th 0), .int v1_0, .int v2_0] (wModel k a_th th_0) (Qi k (fun u : OS => wModel k a_th u) (fun (r : Int32) (u : OS) => res = (u, r))) := by
  refine CG.ofI (by decide) (Nat.le_of_ble_eq_true rfl) (fun p e s m args below meth c A Q E hnm hW hA hret ls hl => ?_)
  have hl : lv_has ls 5 [(0, .ref (a_th 0)), (1, .int v1_0), (2, .int v2_0)] := hl
  unfold f_X9_helps at hf
  refine k_aload_n E hl 0 dX9_helps_0 rfl ?_
  refine k_aload_n E hl 0 dX9_helps_1 rfl ?_
  refine k_iload_n E hl 1 dX9_helps_2 rfl ?_
  obtain ⟨r_1, hg, hf⟩ := ob hf
  refine k_callVi (As := [.int v1_0]) (rest := [.ref (a_th 0)]) (ws2 := fun u => wModel k a_th th_0) (c_X9_isLoan n l k a_th th_0 v1_0 r_1 hg) E vl_X9_235 dX9_helps_3 rfl [0, 1, 2, 3, 4, 5, 6, 7, 8, 9, 10, 11, 12] 7 0 hW hA hl rfl rfl rfl rfl ⟨by decide, by decide⟩ ⟨by decide, by decide⟩ (Nat.le_of_ble_eq_true rfl) rfl (fun _ => rfl) (fun _ => rfl) (fun r u H locs hp hW => ?_)
  cases hp
  have hW : WD k A s.heap (wModel k a_th th_0) H locs := hW
  have J_22 : ∀ (th_j22 : OS) (s1_j22 : Int32) (H : Heap) (locs : List Loc) (ls : Array Slot) (hW : WD k A s.heap (wModel k a_th th_j22) H locs) (hl : lv_has ls 5 [(0, .ref (a_th 0)), (1, .int v1_0), (2, .int v2_0)]) (hf : j_X9_helps_22 n v1_0 v2_0 th_j22 s1_j22 = some res), W p l e { frames := 9, cells := 0, slots := 0, locals := 204 } s m args below meth c H locs 0 0 Q (F0 m 22 ls [.int s1_j22, .ref (a_th 0)]) := by
    intro th_j22 s1_j22 H locs ls hW hl hf
    unfold j_X9_helps_22 at hf
    obtain ⟨th_2, r_3, hg, hf⟩ := ob2 hf
    refine k_callVi (As := [.int s1_j22]) (rest := []) (ws2 := fun u => wModel k a_th (u)) (c_X9_is n l k a_th th_j22 s1_j22 (th_2, r_3) hg) E vl_X9_77 dX9_helps_22 rfl [0, 1, 2, 3, 4, 5, 6, 7, 8, 9, 10, 11, 12] 7 0 hW hA hl rfl rfl rfl rfl ⟨by decide, by decide⟩ ⟨by decide, by decide⟩ (Nat.le_of_ble_eq_true rfl) rfl (fun _ => rfl) (fun _ => rfl) (fun r u H locs hp hW => ?_)
    cases hp
    have hW : WD k A s.heap (wModel k a_th th_2) H locs := hW
    refine lv_if_ne (tgt := 30) E.hx E.hb dX9_helps_25 (by decide) (fun hc => ?_) (fun hc => ?_)
    · have hf := oF hc hf
      refine k_aload_n E hl 0 dX9_helps_30 rfl ?_
      refine k_iload_n E hl 2 dX9_helps_31 rfl ?_
      obtain ⟨r_4, hg, hf⟩ := ob hf
      refine k_callVi (As := [.int v2_0]) (rest := []) (ws2 := fun u => wModel k a_th th_2) (c_X9_doesWait n l k a_th th_2 v2_0 r_4 hg) E vl_X9_142 dX9_helps_32 rfl [0, 1, 2, 3, 4, 5, 6, 7, 8, 9, 10, 11, 12] 7 0 hW hA hl rfl rfl rfl rfl ⟨by decide, by decide⟩ ⟨by decide, by decide⟩ (Nat.le_of_ble_eq_true rfl) rfl (fun _ => rfl) (fun _ => rfl) (fun r u H locs hp hW => ?_)
      cases hp
      have hW : WD k A s.heap (wModel k a_th th_2) H locs := hW
      refine lv_if_eq (tgt := 46) E.hx E.hb dX9_helps_35 (by decide) (fun hc => ?_) (fun hc => ?_)
      · have hf := oT hc hf
        refine lv_iconst (v := (-1 : Int32)) E.hx E.hb dX9_helps_46 ic_m1 ?_
        exact hret _ th_2 _ _ _ _ _ _ hW (Option.some.inj hf).symm rfl (by decide) (by decide) dX9_helps_47
      · have hf := oF hc hf
        refine k_aload_n E hl 0 dX9_helps_38 rfl ?_
        obtain ⟨r_5, hg, hf⟩ := ob hf
        refine k_callVi (As := []) (rest := []) (ws2 := fun u => wModel k a_th th_2) (c_X9_timeOfHearing n l k a_th th_2 r_5 hg) E vl_X9_297 dX9_helps_39 rfl [0, 1, 2, 3, 4, 5, 6, 7, 8, 9, 10, 11, 12] 7 0 hW hA hl rfl rfl rfl rfl ⟨by decide, by decide⟩ ⟨by decide, by decide⟩ (Nat.le_of_ble_eq_true rfl) rfl (fun _ => rfl) (fun _ => rfl) (fun r u H locs hp hW => ?_)
        cases hp
        have hW : WD k A s.heap (wModel k a_th th_2) H locs := hW
        refine lv_iconst (v := (-1 : Int32)) E.hx E.hb dX9_helps_42 ic_m1 ?_
        refine lv_icmp_ne (tgt := 48) E.hx E.hb dX9_helps_43 (by decide) (fun hc => ?_) (fun hc => ?_)
        · have hf := oF hc hf
          refine k_aload_n E hl 0 dX9_helps_48 rfl ?_
          refine k_iload_n E hl 1 dX9_helps_49 rfl ?_
          obtain ⟨r_6, hg, hf⟩ := ob hf
          refine k_callVi (As := [.int v1_0]) (rest := []) (ws2 := fun u => wModel k a_th th_2) (c_X9_pagesOf n l k a_th th_2 v1_0 r_6 hg) E vl_X9_103 dX9_helps_50 rfl [0, 1, 2, 3, 4, 5, 6, 7, 8, 9, 10, 11, 12] 7 0 hW hA hl rfl rfl rfl rfl ⟨by decide, by decide⟩ ⟨by decide, by decide⟩ (Nat.le_of_ble_eq_true rfl) rfl (fun _ => rfl) (fun _ => rfl) (fun r u H locs hp hW => ?_)
          cases hp
          have hW : WD k A s.heap (wModel k a_th th_2) H locs := hW
          refine k_istore_n (lv' := [(3, .int r_6), (0, .ref (a_th 0)), (1, .int v1_0), (2, .int v2_0)]) E rfl hl dX9_helps_53 rfl (by decide) rfl (fun ls hl => ?_)
          refine lv_iconst (v := (0 : Int32)) E.hx E.hb dX9_helps_54 ic_0 ?_
          refine k_istore (lv' := [(4, .int (0 : Int32)), (3, .int r_6), (0, .ref (a_th 0)), (1, .int v1_0), (2, .int v2_0)]) E rfl hl dX9_helps_55 (by decide) rfl (fun ls hl => ?_)
          have L_57 : ∀ (N_57 : Nat) (th_j57 : OS) (w4_j57 : Int32) (H : Heap) (locs : List Loc) (ls : Array Slot) (hW : WD k A s.heap (wModel k a_th th_j57) H locs) (hl : lv_has ls 5 [(0, .ref (a_th 0)), (1, .int v1_0), (2, .int v2_0), (3, .int r_6), (4, .int w4_j57)]) (hf : l_X9_helps_57 n v1_0 v2_0 r_6 N_57 th_j57 w4_j57 = some res), W p l e { frames := 9, cells := 0, slots := 0, locals := 204 } s m args below meth c H locs 0 0 Q (F0 m 57 ls []) := by
            intro N_57
            induction N_57 with
            | zero => intro th_j57 w4_j57 H locs ls hW hl hf; exact o0 hf
            | succ N_57 ih_57 =>
              intro th_j57 w4_j57 H locs ls hW hl hf
              have hf : s_X9_helps_57 n v1_0 v2_0 r_6 (l_X9_helps_57 n v1_0 v2_0 r_6 N_57) th_j57 w4_j57 = some res := hf
              unfold s_X9_helps_57 at hf
              refine k_iload E hl 4 dX9_helps_57 rfl ?_
              refine k_iload_n E hl 3 dX9_helps_59 rfl ?_
              refine lv_icmp_gt (tgt := 83) E.hx E.hb dX9_helps_60 (by decide) (fun hc => ?_) (fun hc => ?_)
              · have hf := oT hc hf
                refine lv_iconst (v := (-1 : Int32)) E.hx E.hb dX9_helps_83 ic_m1 ?_
                exact hret _ th_j57 _ _ _ _ _ _ hW (Option.some.inj hf).symm rfl (by decide) (by decide) dX9_helps_84
              · have hf := oF hc hf
                refine k_aload_n E hl 0 dX9_helps_63 rfl ?_
                refine k_iload_n E hl 1 dX9_helps_64 rfl ?_
                refine k_iload E hl 4 dX9_helps_65 rfl ?_
                refine k_iload_n E hl 2 dX9_helps_67 rfl ?_
                obtain ⟨th_7, r_8, hg, hf⟩ := ob2 hf
                refine k_callVi (As := [.int v1_0, .int w4_j57, .int v2_0]) (rest := []) (ws2 := fun u => wModel k a_th (u)) (c_X9_doesHelp n l k a_th th_j57 v1_0 w4_j57 v2_0 (th_7, r_8) hg) E vl_X9_310 dX9_helps_68 rfl [0, 1, 2, 3, 4, 5, 6, 7, 8, 9, 10, 11, 12] 7 0 hW hA hl rfl rfl rfl rfl ⟨by decide, by decide⟩ ⟨by decide, by decide⟩ (Nat.le_of_ble_eq_true rfl) rfl (fun _ => rfl) (fun _ => rfl) (fun r u H locs hp hW => ?_)
                cases hp
                have hW : WD k A s.heap (wModel k a_th th_7) H locs := hW
                refine lv_if_eq (tgt := 77) E.hx E.hb dX9_helps_71 (by decide) (fun hc => ?_) (fun hc => ?_)
                · have hf := oT hc hf
                  obtain ⟨v4_9, ev4_9, hf⟩ := oL hf
                  refine k_iinc (lv' := [(4, .int v4_9), (0, .ref (a_th 0)), (1, .int v1_0), (2, .int v2_0), (3, .int r_6)]) E hl 4 dX9_helps_77 rfl (ev4_9.trans (congrArg (fun z => w4_j57 + z) ic_1.symm)) (by decide) rfl (fun ls hl => ?_)
                  refine lv_goto (tgt := 57) E.hx E.hb dX9_helps_80 (by decide) ?_
                  exact ih_57 th_7 v4_9 _ _ _ hW (lv_sub hl [1, 2, 3, 4, 0] rfl) hf
                · have hf := oF hc hf
                  refine k_iload E hl 4 dX9_helps_74 rfl ?_
                  exact hret _ th_7 _ _ _ _ _ _ hW (Option.some.inj hf).symm rfl (by decide) (by decide) dX9_helps_76
          exact L_57 n th_2 (0 : Int32) _ _ _ hW (lv_sub hl [2, 3, 4, 1, 0] rfl) hf
        · have hf := oT hc hf
          refine lv_iconst (v := (-1 : Int32)) E.hx E.hb dX9_helps_46 ic_m1 ?_
          exact hret _ th_2 _ _ _ _ _ _ hW (Option.some.inj hf).symm rfl (by decide) (by decide) dX9_helps_47
    · have hf := oT hc hf
      refine lv_iconst (v := (0 : Int32)) E.hx E.hb dX9_helps_28 ic_0 ?_
      exact hret _ th_2 _ _ _ _ _ _ hW (Option.some.inj hf).symm rfl (by decide) (by decide) dX9_helps_29
  refine lv_if_eq (tgt := 21) E.hx E.hb dX9_helps_6 (by decide) (fun hc => ?_) (fun hc => ?_)
  · have hf := oT hc hf
    refine lv_iconst (v := (0 : Int32)) E.hx E.hb dX9_helps_21 ic_0 ?_
    exact J_22 th_0 (0 : Int32) _ _ _ hW (lv_sub hl [0, 1, 2] rfl) hf
  · have hf := oF hc hf
    refine k_aload_n E hl 0 dX9_helps_9 rfl ?_
    refine k_iload_n E hl 2 dX9_helps_10 rfl ?_
    obtain ⟨r_10, hg, hf⟩ := ob hf
    refine k_callVi (As := [.int v2_0]) (rest := [.ref (a_th 0)]) (ws2 := fun u => wModel k a_th th_0) (c_X9_isClaim n l k a_th th_0 v2_0 r_10 hg) E vl_X9_232 dX9_helps_11 rfl [0, 1, 2, 3, 4, 5, 6, 7, 8, 9, 10, 11, 12] 7 0 hW hA hl rfl rfl rfl rfl ⟨by decide, by decide⟩ ⟨by decide, by decide⟩ (Nat.le_of_ble_eq_true rfl) rfl (fun _ => rfl) (fun _ => rfl) (fun r u H locs hp hW => ?_)
    cases hp
    have hW : WD k A s.heap (wModel k a_th th_0) H locs := hW
    refine lv_if_eq (tgt := 21) E.hx E.hb dX9_helps_14 (by decide) (fun hc => ?_) (fun hc => ?_)
    · have hf := oT hc hf
      refine lv_iconst (v := (0 : Int32)) E.hx E.hb dX9_helps_21 ic_0 ?_
      exact J_22 th_0 (0 : Int32) _ _ _ hW (lv_sub hl [0, 1, 2] rfl) hf
    · have hf := oF hc hf
      refine lv_iconst (v := (1 : Int32)) E.hx E.hb dX9_helps_17 ic_1 ?_
      refine lv_goto (tgt := 22) E.hx E.hb dX9_helps_18 (by decide) ?_
      exact J_22 th_0 (1 : Int32) _ _ _ hW (lv_sub hl [0, 1, 2] rfl) hf
def f_X9_wouldAppeal (n : Nat) (th_0 : OS) (v1_0 : Int32) : Option (OS × Int32) :=
  bnd (f_X9_isKnown n th_0 v1_0) (fun (r_1 : Int32) =>
  bnd2 (f_X9_is n th_0 r_1) (fun (th_2 : OS) (r_3 : Int32) =>
  if r_3 = 0 then (
  some (th_2, (0 : Int32))) else (
  bnd (f_X9_canAppeal n th_2 v1_0) (fun (r_4 : Int32) =>
  if r_4 = 0 then (
  some (th_2, (-1 : Int32))) else (
  bnd (f_X9_lessBy n th_2 v1_0) (fun (r_5 : Int32) =>
  some (th_2, r_5)))))))
set_option maxHeartbeats 4000000 in
set_option maxRecDepth 100000 in
theorem c_X9_wouldAppeal (n : Nat) (l : Launch) (k : KT) (a_th : Nat → Nat) (th_0 : OS) (v1_0 : Int32) (res : (OS × Int32)) (hf : f_X9_wouldAppeal n th_0 v1_0 = some res) : CG l k yX9_wouldAppeal cX9_wouldAppeal 2 (some .int) 4 0 0 88 [.ref (a_th 0), .int v1_0] (wModel k a_th th_0) (Qi k (fun u : OS => wModel k a_th u) (fun (r : Int32) (u : OS) => res = (u, r))) := by
  refine CG.ofI (by decide) (Nat.le_of_ble_eq_true rfl) (fun p e s m args below meth c A Q E hnm hW hA hret ls hl => ?_)
  have hl : lv_has ls 2 [(0, .ref (a_th 0)), (1, .int v1_0)] := hl
  unfold f_X9_wouldAppeal at hf
  refine k_aload_n E hl 0 dX9_wouldAppeal_0 rfl ?_
  refine k_aload_n E hl 0 dX9_wouldAppeal_1 rfl ?_
  refine k_iload_n E hl 1 dX9_wouldAppeal_2 rfl ?_
  obtain ⟨r_1, hg, hf⟩ := ob hf
  refine k_callVi (As := [.int v1_0]) (rest := [.ref (a_th 0)]) (ws2 := fun u => wModel k a_th th_0) (c_X9_isKnown n l k a_th th_0 v1_0 r_1 hg) E vl_X9_260 dX9_wouldAppeal_3 rfl [0, 1, 2, 3, 4, 5, 6, 7, 8, 9, 10, 11, 12] 7 0 hW hA hl rfl rfl rfl rfl ⟨by decide, by decide⟩ ⟨by decide, by decide⟩ (Nat.le_of_ble_eq_true rfl) rfl (fun _ => rfl) (fun _ => rfl) (fun r u H locs hp hW => ?_)
  cases hp
  have hW : WD k A s.heap (wModel k a_th th_0) H locs := hW
  obtain ⟨th_2, r_3, hg, hf⟩ := ob2 hf
  refine k_callVi (As := [.int r_1]) (rest := []) (ws2 := fun u => wModel k a_th (u)) (c_X9_is n l k a_th th_0 r_1 (th_2, r_3) hg) E vl_X9_77 dX9_wouldAppeal_6 rfl [0, 1, 2, 3, 4, 5, 6, 7, 8, 9, 10, 11, 12] 7 0 hW hA hl rfl rfl rfl rfl ⟨by decide, by decide⟩ ⟨by decide, by decide⟩ (Nat.le_of_ble_eq_true rfl) rfl (fun _ => rfl) (fun _ => rfl) (fun r u H locs hp hW => ?_)
  cases hp
  have hW : WD k A s.heap (wModel k a_th th_2) H locs := hW
  refine lv_if_ne (tgt := 14) E.hx E.hb dX9_wouldAppeal_9 (by decide) (fun hc => ?_) (fun hc => ?_)
  · have hf := oF hc hf
    refine k_aload_n E hl 0 dX9_wouldAppeal_14 rfl ?_
    refine k_iload_n E hl 1 dX9_wouldAppeal_15 rfl ?_
    obtain ⟨r_4, hg, hf⟩ := ob hf
    refine k_callVi (As := [.int v1_0]) (rest := []) (ws2 := fun u => wModel k a_th th_2) (c_X9_canAppeal n l k a_th th_2 v1_0 r_4 hg) E vl_X9_263 dX9_wouldAppeal_16 rfl [0, 1, 2, 3, 4, 5, 6, 7, 8, 9, 10, 11, 12] 7 0 hW hA hl rfl rfl rfl rfl ⟨by decide, by decide⟩ ⟨by decide, by decide⟩ (Nat.le_of_ble_eq_true rfl) rfl (fun _ => rfl) (fun _ => rfl) (fun r u H locs hp hW => ?_)
    cases hp
    have hW : WD k A s.heap (wModel k a_th th_2) H locs := hW
    refine lv_if_eq (tgt := 30) E.hx E.hb dX9_wouldAppeal_19 (by decide) (fun hc => ?_) (fun hc => ?_)
    · have hf := oT hc hf
      refine lv_iconst (v := (-1 : Int32)) E.hx E.hb dX9_wouldAppeal_30 ic_m1 ?_
      exact hret _ th_2 _ _ _ _ _ _ hW (Option.some.inj hf).symm rfl (by decide) (by decide) dX9_wouldAppeal_31
    · have hf := oF hc hf
      refine k_aload_n E hl 0 dX9_wouldAppeal_22 rfl ?_
      refine k_iload_n E hl 1 dX9_wouldAppeal_23 rfl ?_
      obtain ⟨r_5, hg, hf⟩ := ob hf
      refine k_callVi (As := [.int v1_0]) (rest := []) (ws2 := fun u => wModel k a_th th_2) (c_X9_lessBy n l k a_th th_2 v1_0 r_5 hg) E vl_X9_266 dX9_wouldAppeal_24 rfl [0, 1, 2, 3, 4, 5, 6, 7, 8, 9, 10, 11, 12] 7 0 hW hA hl rfl rfl rfl rfl ⟨by decide, by decide⟩ ⟨by decide, by decide⟩ (Nat.le_of_ble_eq_true rfl) rfl (fun _ => rfl) (fun _ => rfl) (fun r u H locs hp hW => ?_)
      cases hp
      have hW : WD k A s.heap (wModel k a_th th_2) H locs := hW
      refine lv_goto (tgt := 31) E.hx E.hb dX9_wouldAppeal_27 (by decide) ?_
      exact hret _ th_2 _ _ _ _ _ _ hW (Option.some.inj hf).symm rfl (by decide) (by decide) dX9_wouldAppeal_31
  · have hf := oT hc hf
    refine lv_iconst (v := (0 : Int32)) E.hx E.hb dX9_wouldAppeal_12 ic_0 ?_
    exact hret _ th_2 _ _ _ _ _ _ hW (Option.some.inj hf).symm rfl (by decide) (by decide) dX9_wouldAppeal_13
def s_X9_clears_60 (n : Nat) (rc_60 : (OS) → (Int32) → Option (OS)) (th_j60 : OS) (w1_j60 : Int32) : Option (OS) :=
  if (1846 : Int32) ≤ w1_j60 then (
  some th_j60) else (
  bnd (f_X9_isIn n ((w1_j60).toInt64) (538 : Int64) (601 : Int64)) (fun (r_10 : Int32) =>
  if r_10 = 0 then (
  gI 1846 w1_j60 (Let (sA th_j60 10 (upd (th_j60.2.1 10) w1_j60.toNatClampNeg (0 : Int32))) (fun th_11 : OS =>
  Let (w1_j60 + (1 : Int32)) (fun v1_12 : Int32 =>
  rc_60 th_11 v1_12)))) else (
  gI 1846 w1_j60 (Let (sA th_j60 10 (upd (th_j60.2.1 10) w1_j60.toNatClampNeg (-1 : Int32))) (fun th_13 : OS =>
  Let (w1_j60 + (1 : Int32)) (fun v1_14 : Int32 =>
  rc_60 th_13 v1_14))))))
def l_X9_clears_60 (n : Nat) : Nat → (OS) → (Int32) → Option (OS)
  | 0 => fun _ _ => none
  | N + 1 => s_X9_clears_60 n (l_X9_clears_60 n N)
def f_X9_clears (n : Nat) (th_0 : OS) : Option (OS) :=
  Let (sI th_0 33 (0 : Int32)) (fun th_1 : OS =>
  Let (sI th_1 34 (0 : Int32)) (fun th_2 : OS =>
  Let (sI th_2 35 (0 : Int32)) (fun th_3 : OS =>
  Let (sI th_3 36 (0 : Int32)) (fun th_4 : OS =>
  gI 5 (0 : Int32) (Let (sA th_4 37 (upd (th_4.2.1 37) (0 : Int32).toNatClampNeg (5 : Int32))) (fun th_5 : OS =>
  gI 5 (1 : Int32) (Let (sA th_5 37 (upd (th_5.2.1 37) (1 : Int32).toNatClampNeg (10 : Int32))) (fun th_6 : OS =>
  gI 5 (2 : Int32) (Let (sA th_6 37 (upd (th_6.2.1 37) (2 : Int32).toNatClampNeg (20 : Int32))) (fun th_7 : OS =>
  gI 5 (3 : Int32) (Let (sA th_7 37 (upd (th_7.2.1 37) (3 : Int32).toNatClampNeg (3 : Int32))) (fun th_8 : OS =>
  gI 5 (4 : Int32) (Let (sA th_8 37 (upd (th_8.2.1 37) (4 : Int32).toNatClampNeg (10 : Int32))) (fun th_9 : OS =>
  l_X9_clears_60 n n th_9 (0 : Int32)))))))))))))))
set_option maxHeartbeats 4000000 in
set_option maxRecDepth 100000 in
theorem c_X9_clears (n : Nat) (l : Launch) (k : KT) (a_th : Nat → Nat) (th_0 : OS) (res : (OS)) (hf : f_X9_clears n th_0 = some res) : CG l k yX9_clears cX9_clears 2 none 1 0 0 25 [.ref (a_th 0)] (wModel k a_th th_0) (Qv k (fun u : OS => wModel k a_th u) (fun u : OS => res = u)) := by
  refine CG.ofV (by decide) (Nat.le_of_ble_eq_true rfl) (fun p e s m args below meth c A Q E hnm hW hA hret ls hl => ?_)
  have hl : lv_has ls 2 [(0, .ref (a_th 0))] := hl
  unfold f_X9_clears at hf
  refine k_aload_n E hl 0 dX9_clears_0 rfl ?_
  refine lv_iconst (v := (0 : Int32)) E.hx E.hb dX9_clears_1 ic_0 ?_
  obtain ⟨th_1, eth_1, hf⟩ := oL hf
  refine pf_X9_61 (ws2 := wModel k a_th th_1) E hW 0 rfl rfl rfl (Nat.le_of_ble_eq_true rfl) dX9_clears_2 (by rw [eth_1]; rfl) (fun H locs hW => ?_)
  refine k_aload_n E hl 0 dX9_clears_5 rfl ?_
  refine lv_iconst (v := (0 : Int32)) E.hx E.hb dX9_clears_6 ic_0 ?_
  obtain ⟨th_2, eth_2, hf⟩ := oL hf
  refine pf_X9_314 (ws2 := wModel k a_th th_2) E hW 0 rfl rfl rfl (Nat.le_of_ble_eq_true rfl) dX9_clears_7 (by rw [eth_2]; rfl) (fun H locs hW => ?_)
  refine k_aload_n E hl 0 dX9_clears_10 rfl ?_
  refine lv_iconst (v := (0 : Int32)) E.hx E.hb dX9_clears_11 ic_0 ?_
  obtain ⟨th_3, eth_3, hf⟩ := oL hf
  refine pf_X9_317 (ws2 := wModel k a_th th_3) E hW 0 rfl rfl rfl (Nat.le_of_ble_eq_true rfl) dX9_clears_12 (by rw [eth_3]; rfl) (fun H locs hW => ?_)
  refine k_aload_n E hl 0 dX9_clears_15 rfl ?_
  refine lv_iconst (v := (0 : Int32)) E.hx E.hb dX9_clears_16 ic_0 ?_
  obtain ⟨th_4, eth_4, hf⟩ := oL hf
  refine pf_X9_320 (ws2 := wModel k a_th th_4) E hW 0 rfl rfl rfl (Nat.le_of_ble_eq_true rfl) dX9_clears_17 (by rw [eth_4]; rfl) (fun H locs hW => ?_)
  refine k_aload_n E hl 0 dX9_clears_20 rfl ?_
  refine gf_X9_49 E hW 0 rfl rfl dX9_clears_21 ?_
  refine lv_iconst (v := (0 : Int32)) E.hx E.hb dX9_clears_24 ic_0 ?_
  refine lv_iconst (v := (5 : Int32)) E.hx E.hb dX9_clears_25 ic_5 ?_
  obtain ⟨hin, hf⟩ := oI hf
  obtain ⟨th_5, eth_5, hf⟩ := oL hf
  refine k_iast (ws2 := wModel k a_th th_5) E hW 10 rfl hin dX9_clears_26 (by rw [eth_5]; rfl) (fun H locs hW => ?_)
  refine k_aload_n E hl 0 dX9_clears_27 rfl ?_
  refine gf_X9_49 E hW 0 rfl rfl dX9_clears_28 ?_
  refine lv_iconst (v := (1 : Int32)) E.hx E.hb dX9_clears_31 ic_1 ?_
  refine lv_bipush (v := (10 : Int32)) E.hx E.hb dX9_clears_32 bp_10 ?_
  obtain ⟨hin, hf⟩ := oI hf
  obtain ⟨th_6, eth_6, hf⟩ := oL hf
  refine k_iast (ws2 := wModel k a_th th_6) E hW 10 rfl hin dX9_clears_34 (by rw [eth_6]; rfl) (fun H locs hW => ?_)
  refine k_aload_n E hl 0 dX9_clears_35 rfl ?_
  refine gf_X9_49 E hW 0 rfl rfl dX9_clears_36 ?_
  refine lv_iconst (v := (2 : Int32)) E.hx E.hb dX9_clears_39 ic_2 ?_
  refine lv_bipush (v := (20 : Int32)) E.hx E.hb dX9_clears_40 bp_20 ?_
  obtain ⟨hin, hf⟩ := oI hf
  obtain ⟨th_7, eth_7, hf⟩ := oL hf
  refine k_iast (ws2 := wModel k a_th th_7) E hW 10 rfl hin dX9_clears_42 (by rw [eth_7]; rfl) (fun H locs hW => ?_)
  refine k_aload_n E hl 0 dX9_clears_43 rfl ?_
  refine gf_X9_49 E hW 0 rfl rfl dX9_clears_44 ?_
  refine lv_iconst (v := (3 : Int32)) E.hx E.hb dX9_clears_47 ic_3 ?_
  refine lv_iconst (v := (3 : Int32)) E.hx E.hb dX9_clears_48 ic_3 ?_
  obtain ⟨hin, hf⟩ := oI hf
  obtain ⟨th_8, eth_8, hf⟩ := oL hf
  refine k_iast (ws2 := wModel k a_th th_8) E hW 10 rfl hin dX9_clears_49 (by rw [eth_8]; rfl) (fun H locs hW => ?_)
  refine k_aload_n E hl 0 dX9_clears_50 rfl ?_
  refine gf_X9_49 E hW 0 rfl rfl dX9_clears_51 ?_
  refine lv_iconst (v := (4 : Int32)) E.hx E.hb dX9_clears_54 ic_4 ?_
  refine lv_bipush (v := (10 : Int32)) E.hx E.hb dX9_clears_55 bp_10 ?_
  obtain ⟨hin, hf⟩ := oI hf
  obtain ⟨th_9, eth_9, hf⟩ := oL hf
  refine k_iast (ws2 := wModel k a_th th_9) E hW 10 rfl hin dX9_clears_57 (by rw [eth_9]; rfl) (fun H locs hW => ?_)
  refine lv_iconst (v := (0 : Int32)) E.hx E.hb dX9_clears_58 ic_0 ?_
  refine k_istore_n (lv' := [(1, .int (0 : Int32)), (0, .ref (a_th 0))]) E rfl hl dX9_clears_59 rfl (by decide) rfl (fun ls hl => ?_)
  have L_60 : ∀ (N_60 : Nat) (th_j60 : OS) (w1_j60 : Int32) (H : Heap) (locs : List Loc) (ls : Array Slot) (hW : WD k A s.heap (wModel k a_th th_j60) H locs) (hl : lv_has ls 2 [(0, .ref (a_th 0)), (1, .int w1_j60)]) (hf : l_X9_clears_60 n N_60 th_j60 w1_j60 = some res), W p l e { frames := 1, cells := 0, slots := 0, locals := 25 } s m args below meth c H locs 0 0 Q (F0 m 60 ls []) := by
    intro N_60
    induction N_60 with
    | zero => intro th_j60 w1_j60 H locs ls hW hl hf; exact o0 hf
    | succ N_60 ih_60 =>
      intro th_j60 w1_j60 H locs ls hW hl hf
      have hf : s_X9_clears_60 n  (l_X9_clears_60 n N_60) th_j60 w1_j60 = some res := hf
      unfold s_X9_clears_60 at hf
      refine k_iload_n E hl 1 dX9_clears_60 rfl ?_
      refine lv_sipush (v := (1846 : Int32)) E.hx E.hb dX9_clears_61 sp_1846 ?_
      refine lv_icmp_ge (tgt := 98) E.hx E.hb dX9_clears_64 (by decide) (fun hc => ?_) (fun hc => ?_)
      · have hf := oT hc hf
        exact hret th_j60 _ _ _ _ _ _ hW (Option.some.inj hf).symm (by decide) (by decide) dX9_clears_98
      · have hf := oF hc hf
        refine k_aload_n E hl 0 dX9_clears_67 rfl ?_
        refine gf_X9_17 E hW 0 rfl rfl dX9_clears_68 ?_
        refine k_iload_n E hl 1 dX9_clears_71 rfl ?_
        refine k_iload_n E hl 1 dX9_clears_72 rfl ?_
        refine lv_i2l (v := (w1_j60).toInt64) E.hx E.hb dX9_clears_73 rfl ?_
        refine lv_ldc2 E.hx E.hb E.ho (E.w tm_1306 rfl) dX9_clears_74 ?_
        refine lv_ldc2 E.hx E.hb E.ho (E.w tm_1307 rfl) dX9_clears_77 ?_
        obtain ⟨r_10, hg, hf⟩ := ob hf
        refine k_callSi (As := [.long ((w1_j60).toInt64), .long (538 : Int64), .long (601 : Int64)]) (rest := [.int w1_j60, .ref (a_th 3)]) (ws2 := fun u => wModel k a_th th_j60) (c_X9_isIn n l k ((w1_j60).toInt64) (538 : Int64) (601 : Int64) r_10 hg) E sl_X9_92 dX9_clears_80 rfl [] hW hA hl rfl rfl ⟨by decide, by decide⟩ ⟨by decide, by decide⟩ (Nat.le_of_ble_eq_true rfl) rfl (fun _ => rfl) (fun _ => rfl) (fun r u H locs hp hW => ?_)
        cases hp
        have hW : WD k A s.heap (wModel k a_th th_j60) H locs := hW
        refine lv_if_eq (tgt := 90) E.hx E.hb dX9_clears_83 (by decide) (fun hc => ?_) (fun hc => ?_)
        · have hf := oT hc hf
          refine lv_iconst (v := (0 : Int32)) E.hx E.hb dX9_clears_90 ic_0 ?_
          obtain ⟨hin, hf⟩ := oI hf
          obtain ⟨th_11, eth_11, hf⟩ := oL hf
          refine k_iast (ws2 := wModel k a_th th_11) E hW 3 rfl hin dX9_clears_91 (by rw [eth_11]; rfl) (fun H locs hW => ?_)
          obtain ⟨v1_12, ev1_12, hf⟩ := oL hf
          refine k_iinc (lv' := [(1, .int v1_12), (0, .ref (a_th 0))]) E hl 1 dX9_clears_92 rfl (ev1_12.trans (congrArg (fun z => w1_j60 + z) ic_1.symm)) (by decide) rfl (fun ls hl => ?_)
          refine lv_goto (tgt := 60) E.hx E.hb dX9_clears_95 (by decide) ?_
          exact ih_60 th_11 v1_12 _ _ _ hW (lv_sub hl [1, 0] rfl) hf
        · have hf := oF hc hf
          refine lv_iconst (v := (-1 : Int32)) E.hx E.hb dX9_clears_86 ic_m1 ?_
          refine lv_goto (tgt := 91) E.hx E.hb dX9_clears_87 (by decide) ?_
          obtain ⟨hin, hf⟩ := oI hf
          obtain ⟨th_13, eth_13, hf⟩ := oL hf
          refine k_iast (ws2 := wModel k a_th th_13) E hW 3 rfl hin dX9_clears_91 (by rw [eth_13]; rfl) (fun H locs hW => ?_)
          obtain ⟨v1_14, ev1_14, hf⟩ := oL hf
          refine k_iinc (lv' := [(1, .int v1_14), (0, .ref (a_th 0))]) E hl 1 dX9_clears_92 rfl (ev1_14.trans (congrArg (fun z => w1_j60 + z) ic_1.symm)) (by decide) rfl (fun ls hl => ?_)
          refine lv_goto (tgt := 60) E.hx E.hb dX9_clears_95 (by decide) ?_
          exact ih_60 th_13 v1_14 _ _ _ hW (lv_sub hl [1, 0] rfl) hf
  exact L_60 n th_9 (0 : Int32) _ _ _ hW (lv_sub hl [1, 0] rfl) hf
def j_X9_takesDraft_94 (n : Nat) (th_j94 : OS) : Option (OS) :=
  bnd (f_X9_copies n 1846 (th_j94.2.1 10) 1846 (th_j94.2.1 9)) (fun (y_13 : Nat → Int32) =>
  Let (sA th_j94 9 y_13) (fun th_14 : OS =>
  Let (sI th_14 15 (0 : Int32)) (fun th_15 : OS =>
  Let (sI th_15 16 (0 : Int32)) (fun th_16 : OS =>
  some th_16))))
def s_X9_takesDraft_68 (n : Nat) (rc_68 : (OS) → (Int32) → Option (OS)) (th_j68 : OS) (w1_j68 : Int32) : Option (OS) :=
  if (th_j68.1 2) ≤ w1_j68 then (
  j_X9_takesDraft_94 n th_j68) else (
  gI 8 w1_j68 (Let ((th_j68.2.2.1 38) w1_j68.toNatClampNeg) (fun x_17 : Int64 =>
  gI 8 w1_j68 (Let (sL th_j68 8 (vp_updL (th_j68.2.2.1 8) w1_j68.toNatClampNeg x_17)) (fun th_18 : OS =>
  Let (w1_j68 + (1 : Int32)) (fun v1_19 : Int32 =>
  rc_68 th_18 v1_19))))))
def l_X9_takesDraft_68 (n : Nat) : Nat → (OS) → (Int32) → Option (OS)
  | 0 => fun _ _ => none
  | N + 1 => s_X9_takesDraft_68 n (l_X9_takesDraft_68 n N)
def f_X9_takesDraft (n : Nat) (th_0 : OS) : Option (OS) :=
  Let (sI th_0 1 (th_0.1 33)) (fun th_1 : OS =>
  Let (sI th_1 2 (th_1.1 34)) (fun th_2 : OS =>
  gI 5 (0 : Int32) (Let ((th_2.2.1 37) (0 : Int32).toNatClampNeg) (fun x_3 : Int32 =>
  Let (sI th_2 3 x_3) (fun th_4 : OS =>
  gI 5 (1 : Int32) (Let ((th_4.2.1 37) (1 : Int32).toNatClampNeg) (fun x_5 : Int32 =>
  Let (sI th_4 4 x_5) (fun th_6 : OS =>
  gI 5 (2 : Int32) (Let ((th_6.2.1 37) (2 : Int32).toNatClampNeg) (fun x_7 : Int32 =>
  Let (sI th_6 5 x_7) (fun th_8 : OS =>
  gI 5 (3 : Int32) (Let ((th_8.2.1 37) (3 : Int32).toNatClampNeg) (fun x_9 : Int32 =>
  Let (sI th_8 6 x_9) (fun th_10 : OS =>
  gI 5 (4 : Int32) (Let ((th_10.2.1 37) (4 : Int32).toNatClampNeg) (fun x_11 : Int32 =>
  Let (sI th_10 7 x_11) (fun th_12 : OS =>
  l_X9_takesDraft_68 n n th_12 (0 : Int32))))))))))))))))))
set_option maxHeartbeats 4000000 in
set_option maxRecDepth 100000 in
theorem c_X9_takesDraft (n : Nat) (l : Launch) (k : KT) (a_th : Nat → Nat) (th_0 : OS) (res : (OS)) (hf : f_X9_takesDraft n th_0 = some res) : CG l k yX9_takesDraft cX9_takesDraft 2 none 1 0 0 22 [.ref (a_th 0)] (wModel k a_th th_0) (Qv k (fun u : OS => wModel k a_th u) (fun u : OS => res = u)) := by
  refine CG.ofV (by decide) (Nat.le_of_ble_eq_true rfl) (fun p e s m args below meth c A Q E hnm hW hA hret ls hl => ?_)
  have hl : lv_has ls 2 [(0, .ref (a_th 0))] := hl
  unfold f_X9_takesDraft at hf
  refine k_aload_n E hl 0 dX9_takesDraft_0 rfl ?_
  refine k_aload_n E hl 0 dX9_takesDraft_1 rfl ?_
  refine gf_X9_61 E hW 0 rfl rfl dX9_takesDraft_2 ?_
  obtain ⟨th_1, eth_1, hf⟩ := oL hf
  refine pf_X9_100 (ws2 := wModel k a_th th_1) E hW 0 rfl rfl rfl (Nat.le_of_ble_eq_true rfl) dX9_takesDraft_5 (by rw [eth_1]; rfl) (fun H locs hW => ?_)
  refine k_aload_n E hl 0 dX9_takesDraft_8 rfl ?_
  refine k_aload_n E hl 0 dX9_takesDraft_9 rfl ?_
  refine gf_X9_314 E hW 0 rfl rfl dX9_takesDraft_10 ?_
  obtain ⟨th_2, eth_2, hf⟩ := oL hf
  refine pf_X9_89 (ws2 := wModel k a_th th_2) E hW 0 rfl rfl rfl (Nat.le_of_ble_eq_true rfl) dX9_takesDraft_13 (by rw [eth_2]; rfl) (fun H locs hW => ?_)
  refine k_aload_n E hl 0 dX9_takesDraft_16 rfl ?_
  refine k_aload_n E hl 0 dX9_takesDraft_17 rfl ?_
  refine gf_X9_49 E hW 0 rfl rfl dX9_takesDraft_18 ?_
  refine lv_iconst (v := (0 : Int32)) E.hx E.hb dX9_takesDraft_21 ic_0 ?_
  obtain ⟨hin, hf⟩ := oI hf
  obtain ⟨x_3, ex_3, hf⟩ := oL hf
  refine k_iald E hW 10 rfl hin dX9_takesDraft_22 ?_
  refine k_topi ex_3 ?_
  obtain ⟨th_4, eth_4, hf⟩ := oL hf
  refine pf_X9_193 (ws2 := wModel k a_th th_4) E hW 0 rfl rfl rfl (Nat.le_of_ble_eq_true rfl) dX9_takesDraft_23 (by rw [eth_4]; rfl) (fun H locs hW => ?_)
  refine k_aload_n E hl 0 dX9_takesDraft_26 rfl ?_
  refine k_aload_n E hl 0 dX9_takesDraft_27 rfl ?_
  refine gf_X9_49 E hW 0 rfl rfl dX9_takesDraft_28 ?_
  refine lv_iconst (v := (1 : Int32)) E.hx E.hb dX9_takesDraft_31 ic_1 ?_
  obtain ⟨hin, hf⟩ := oI hf
  obtain ⟨x_5, ex_5, hf⟩ := oL hf
  refine k_iald E hW 10 rfl hin dX9_takesDraft_32 ?_
  refine k_topi ex_5 ?_
  obtain ⟨th_6, eth_6, hf⟩ := oL hf
  refine pf_X9_117 (ws2 := wModel k a_th th_6) E hW 0 rfl rfl rfl (Nat.le_of_ble_eq_true rfl) dX9_takesDraft_33 (by rw [eth_6]; rfl) (fun H locs hW => ?_)
  refine k_aload_n E hl 0 dX9_takesDraft_36 rfl ?_
  refine k_aload_n E hl 0 dX9_takesDraft_37 rfl ?_
  refine gf_X9_49 E hW 0 rfl rfl dX9_takesDraft_38 ?_
  refine lv_iconst (v := (2 : Int32)) E.hx E.hb dX9_takesDraft_41 ic_2 ?_
  obtain ⟨hin, hf⟩ := oI hf
  obtain ⟨x_7, ex_7, hf⟩ := oL hf
  refine k_iald E hW 10 rfl hin dX9_takesDraft_42 ?_
  refine k_topi ex_7 ?_
  obtain ⟨th_8, eth_8, hf⟩ := oL hf
  refine pf_X9_190 (ws2 := wModel k a_th th_8) E hW 0 rfl rfl rfl (Nat.le_of_ble_eq_true rfl) dX9_takesDraft_43 (by rw [eth_8]; rfl) (fun H locs hW => ?_)
  refine k_aload_n E hl 0 dX9_takesDraft_46 rfl ?_
  refine k_aload_n E hl 0 dX9_takesDraft_47 rfl ?_
  refine gf_X9_49 E hW 0 rfl rfl dX9_takesDraft_48 ?_
  refine lv_iconst (v := (3 : Int32)) E.hx E.hb dX9_takesDraft_51 ic_3 ?_
  obtain ⟨hin, hf⟩ := oI hf
  obtain ⟨x_9, ex_9, hf⟩ := oL hf
  refine k_iald E hW 10 rfl hin dX9_takesDraft_52 ?_
  refine k_topi ex_9 ?_
  obtain ⟨th_10, eth_10, hf⟩ := oL hf
  refine pf_X9_148 (ws2 := wModel k a_th th_10) E hW 0 rfl rfl rfl (Nat.le_of_ble_eq_true rfl) dX9_takesDraft_53 (by rw [eth_10]; rfl) (fun H locs hW => ?_)
  refine k_aload_n E hl 0 dX9_takesDraft_56 rfl ?_
  refine k_aload_n E hl 0 dX9_takesDraft_57 rfl ?_
  refine gf_X9_49 E hW 0 rfl rfl dX9_takesDraft_58 ?_
  refine lv_iconst (v := (4 : Int32)) E.hx E.hb dX9_takesDraft_61 ic_4 ?_
  obtain ⟨hin, hf⟩ := oI hf
  obtain ⟨x_11, ex_11, hf⟩ := oL hf
  refine k_iald E hW 10 rfl hin dX9_takesDraft_62 ?_
  refine k_topi ex_11 ?_
  obtain ⟨th_12, eth_12, hf⟩ := oL hf
  refine pf_X9_251 (ws2 := wModel k a_th th_12) E hW 0 rfl rfl rfl (Nat.le_of_ble_eq_true rfl) dX9_takesDraft_63 (by rw [eth_12]; rfl) (fun H locs hW => ?_)
  refine lv_iconst (v := (0 : Int32)) E.hx E.hb dX9_takesDraft_66 ic_0 ?_
  refine k_istore_n (lv' := [(1, .int (0 : Int32)), (0, .ref (a_th 0))]) E rfl hl dX9_takesDraft_67 rfl (by decide) rfl (fun ls hl => ?_)
  have L_68 : ∀ (N_68 : Nat) (th_j68 : OS) (w1_j68 : Int32) (H : Heap) (locs : List Loc) (ls : Array Slot) (hW : WD k A s.heap (wModel k a_th th_j68) H locs) (hl : lv_has ls 2 [(0, .ref (a_th 0)), (1, .int w1_j68)]) (hf : l_X9_takesDraft_68 n N_68 th_j68 w1_j68 = some res), W p l e { frames := 1, cells := 0, slots := 0, locals := 22 } s m args below meth c H locs 0 0 Q (F0 m 68 ls []) := by
    intro N_68
    induction N_68 with
    | zero => intro th_j68 w1_j68 H locs ls hW hl hf; exact o0 hf
    | succ N_68 ih_68 =>
      intro th_j68 w1_j68 H locs ls hW hl hf
      have hf : s_X9_takesDraft_68 n  (l_X9_takesDraft_68 n N_68) th_j68 w1_j68 = some res := hf
      unfold s_X9_takesDraft_68 at hf
      refine k_iload_n E hl 1 dX9_takesDraft_68 rfl ?_
      refine k_aload_n E hl 0 dX9_takesDraft_69 rfl ?_
      refine gf_X9_89 E hW 0 rfl rfl dX9_takesDraft_70 ?_
      have J_94 : ∀ (th_j94 : OS) (H : Heap) (locs : List Loc) (ls : Array Slot) (hW : WD k A s.heap (wModel k a_th th_j94) H locs) (hl : lv_has ls 2 [(0, .ref (a_th 0))]) (hf : j_X9_takesDraft_94 n  th_j94 = some res), W p l e { frames := 1, cells := 0, slots := 0, locals := 22 } s m args below meth c H locs 0 0 Q (F0 m 94 ls []) := by
        intro th_j94 H locs ls hW hl hf
        unfold j_X9_takesDraft_94 at hf
        refine k_aload_n E hl 0 dX9_takesDraft_94 rfl ?_
        refine gf_X9_17 E hW 0 rfl rfl dX9_takesDraft_95 ?_
        refine k_aload_n E hl 0 dX9_takesDraft_98 rfl ?_
        refine gf_X9_13 E hW 0 rfl rfl dX9_takesDraft_99 ?_
        obtain ⟨y_13, hg, hf⟩ := ob hf
        obtain ⟨th_14, eth_14, hf⟩ := oL hf
        refine k_callSv (As := [.ref (a_th 3), .ref (a_th 2)]) (rest := []) (ws2 := fun u => wModel k a_th (sA th_j94 9 (u))) (c_X9_copies n l k (fun j => a_th (3 + j)) (fun j => a_th (2 + j)) 1846 (th_j94.2.1 10) 1846 (th_j94.2.1 9) y_13 hg) E sl_X9_70 dX9_takesDraft_102 rfl [3, 2] hW hA hl rfl rfl ⟨by decide, by decide⟩ ⟨by decide, by decide⟩ (Nat.le_of_ble_eq_true rfl) rfl (fun _ => rfl) (fun _ => rfl) (fun u H locs hp hW => ?_)
        cases hp
        have hW : WD k A s.heap (wModel k a_th th_14) H locs := by rw [eth_14]; exact hW
        refine k_aload_n E hl 0 dX9_takesDraft_105 rfl ?_
        refine lv_iconst (v := (0 : Int32)) E.hx E.hb dX9_takesDraft_106 ic_0 ?_
        obtain ⟨th_15, eth_15, hf⟩ := oL hf
        refine pf_X9_74 (ws2 := wModel k a_th th_15) E hW 0 rfl rfl rfl (Nat.le_of_ble_eq_true rfl) dX9_takesDraft_107 (by rw [eth_15]; rfl) (fun H locs hW => ?_)
        refine k_aload_n E hl 0 dX9_takesDraft_110 rfl ?_
        refine lv_iconst (v := (0 : Int32)) E.hx E.hb dX9_takesDraft_111 ic_0 ?_
        obtain ⟨th_16, eth_16, hf⟩ := oL hf
        refine pf_X9_81 (ws2 := wModel k a_th th_16) E hW 0 rfl (by decide) (by decide) (Nat.le_of_ble_eq_true rfl) dX9_takesDraft_112 (by rw [eth_16]; rfl) (fun H locs hW => ?_)
        exact hret th_16 _ _ _ _ _ _ hW (Option.some.inj hf).symm (by decide) (by decide) dX9_takesDraft_115
      refine lv_icmp_ge (tgt := 94) E.hx E.hb dX9_takesDraft_73 (by decide) (fun hc => ?_) (fun hc => ?_)
      · have hf := oT hc hf
        exact J_94 th_j68 _ _ _ hW (lv_sub hl [0] rfl) hf
      · have hf := oF hc hf
        refine k_aload_n E hl 0 dX9_takesDraft_76 rfl ?_
        refine gf_X9_7 E hW 0 rfl rfl dX9_takesDraft_77 ?_
        refine k_iload_n E hl 1 dX9_takesDraft_80 rfl ?_
        refine k_aload_n E hl 0 dX9_takesDraft_81 rfl ?_
        refine gf_X9_52 E hW 0 rfl rfl dX9_takesDraft_82 ?_
        refine k_iload_n E hl 1 dX9_takesDraft_85 rfl ?_
        obtain ⟨hin, hf⟩ := oI hf
        obtain ⟨x_17, ex_17, hf⟩ := oL hf
        refine k_lald E hW 11 rfl hin dX9_takesDraft_86 ?_
        refine k_topl ex_17 ?_
        obtain ⟨hin, hf⟩ := oI hf
        obtain ⟨th_18, eth_18, hf⟩ := oL hf
        refine k_last (ws2 := wModel k a_th th_18) E hW 1 rfl hin dX9_takesDraft_87 (by rw [eth_18]; rfl) (fun H locs hW => ?_)
        obtain ⟨v1_19, ev1_19, hf⟩ := oL hf
        refine k_iinc (lv' := [(1, .int v1_19), (0, .ref (a_th 0))]) E hl 1 dX9_takesDraft_88 rfl (ev1_19.trans (congrArg (fun z => w1_j68 + z) ic_1.symm)) (by decide) rfl (fun ls hl => ?_)
        refine lv_goto (tgt := 68) E.hx E.hb dX9_takesDraft_91 (by decide) ?_
        exact ih_68 th_18 v1_19 _ _ _ hW (lv_sub hl [1, 0] rfl) hf
  exact L_68 n th_12 (0 : Int32) _ _ _ hW (lv_sub hl [1, 0] rfl) hf
def j_X9_feed_76 (n : Nat) (w1_j23 : Int32) (w2_j23 : Int32) (w3_j23 : Int32) (w4_j23 : Int32) (w5_j23 : Int32) (rc_23 : (OS) → (Int32) → Option (OS × Int32)) (th_j76 : OS) (w6_j76 : Int32) (s0_j76 : Int32) : Option (OS × Int32) :=
  gI 600 (th_j76.1 23) (Let (sA th_j76 22 (upd (th_j76.2.1 22) (th_j76.1 23).toNatClampNeg (vp_nar .byte (((s0_j76 >>> (((24 : Int32) - ((8 : Int32) * (rm32 w6_j76 (4 : Int32)))) &&& 31))).toInt8.toInt32)))) (fun th_2 : OS =>
  Let (sI th_2 23 ((th_2.1 23) + (1 : Int32))) (fun th_3 : OS =>
  Let (w6_j76 + (1 : Int32)) (fun v6_4 : Int32 =>
  rc_23 th_3 v6_4))))
def s_X9_feed_23 (n : Nat) (w1_j23 : Int32) (w2_j23 : Int32) (w3_j23 : Int32) (w4_j23 : Int32) (w5_j23 : Int32) (rc_23 : (OS) → (Int32) → Option (OS × Int32)) (th_j23 : OS) (w6_j23 : Int32) : Option (OS × Int32) :=
  if (20 : Int32) ≤ w6_j23 then (
  some (th_j23, (th_j23.1 23))) else (
  if (4 : Int32) ≤ w6_j23 then (
  if (8 : Int32) ≤ w6_j23 then (
  if (12 : Int32) ≤ w6_j23 then (
  if (16 : Int32) ≤ w6_j23 then (
  j_X9_feed_76 n w1_j23 w2_j23 w3_j23 w4_j23 w5_j23 rc_23 th_j23 w6_j23 w5_j23) else (
  j_X9_feed_76 n w1_j23 w2_j23 w3_j23 w4_j23 w5_j23 rc_23 th_j23 w6_j23 w4_j23)) else (
  j_X9_feed_76 n w1_j23 w2_j23 w3_j23 w4_j23 w5_j23 rc_23 th_j23 w6_j23 w3_j23)) else (
  j_X9_feed_76 n w1_j23 w2_j23 w3_j23 w4_j23 w5_j23 rc_23 th_j23 w6_j23 w2_j23)) else (
  j_X9_feed_76 n w1_j23 w2_j23 w3_j23 w4_j23 w5_j23 rc_23 th_j23 w6_j23 w1_j23))
def l_X9_feed_23 (n : Nat) (w1_j23 : Int32) (w2_j23 : Int32) (w3_j23 : Int32) (w4_j23 : Int32) (w5_j23 : Int32) : Nat → (OS) → (Int32) → Option (OS × Int32)
  | 0 => fun _ _ => none
  | N + 1 => s_X9_feed_23 n w1_j23 w2_j23 w3_j23 w4_j23 w5_j23 (l_X9_feed_23 n w1_j23 w2_j23 w3_j23 w4_j23 w5_j23 N)
def f_X9_feed (n : Nat) (th_0 : OS) (v1_0 : Int32) (v2_0 : Int32) (v3_0 : Int32) (v4_0 : Int32) (v5_0 : Int32) : Option (OS × Int32) :=
  Let (sI th_0 0 (0 : Int32)) (fun th_1 : OS =>
  if ((th_1.1 23) + (20 : Int32)) ≤ (600 : Int32) then (
  l_X9_feed_23 n v1_0 v2_0 v3_0 v4_0 v5_0 n th_1 (0 : Int32)) else (
  some (th_1, (-1 : Int32))))
set_option maxHeartbeats 4000000 in
set_option maxRecDepth 100000 in
theorem c_X9_feed (n : Nat) (l : Launch) (k : KT) (a_th : Nat → Nat) (th_0 : OS) (v1_0 : Int32) (v2_0 : Int32) (v3_0 : Int32) (v4_0 : Int32) (v5_0 : Int32) (res : (OS × Int32)) (hf : f_X9_feed n th_0 v1_0 v2_0 v3_0 v4_0 v5_0 = some res) : CG l k yX9_feed cX9_feed 8 (some .int) 0 0 0 0 [.ref (a_th 0), .int v1_0, .int v2_0, .int v3_0, .int v4_0, .int v5_0] (wModel k a_th th_0) (Qi k (fun u : OS => wModel k a_th u) (fun (r : Int32) (u : OS) => res = (u, r))) := by
  refine CG.ofI (by decide) (Nat.le_of_ble_eq_true rfl) (fun p e s m args below meth c A Q E hnm hW hA hret ls hl => ?_)
  have hl : lv_has ls 8 [(0, .ref (a_th 0)), (1, .int v1_0), (2, .int v2_0), (3, .int v3_0), (4, .int v4_0), (5, .int v5_0)] := hl
  unfold f_X9_feed at hf
  refine k_aload_n E hl 0 dX9_feed_0 rfl ?_
  refine lv_iconst (v := (0 : Int32)) E.hx E.hb dX9_feed_1 ic_0 ?_
  obtain ⟨th_1, eth_1, hf⟩ := oL hf
  refine pf_X9_67 (ws2 := wModel k a_th th_1) E hW 0 rfl rfl rfl (Nat.le_of_ble_eq_true rfl) dX9_feed_2 (by rw [eth_1]; rfl) (fun H locs hW => ?_)
  refine k_aload_n E hl 0 dX9_feed_5 rfl ?_
  refine gf_X9_327 E hW 0 rfl rfl dX9_feed_6 ?_
  refine lv_bipush (v := (20 : Int32)) E.hx E.hb dX9_feed_9 bp_20 ?_
  refine lv_iadd E.hx E.hb dX9_feed_11 ?_
  refine lv_sipush (v := (600 : Int32)) E.hx E.hb dX9_feed_12 sp_600 ?_
  refine lv_icmp_le (tgt := 20) E.hx E.hb dX9_feed_15 (by decide) (fun hc => ?_) (fun hc => ?_)
  · have hf := oT hc hf
    refine lv_iconst (v := (0 : Int32)) E.hx E.hb dX9_feed_20 ic_0 ?_
    refine k_istore (lv' := [(6, .int (0 : Int32)), (0, .ref (a_th 0)), (1, .int v1_0), (2, .int v2_0), (3, .int v3_0), (4, .int v4_0), (5, .int v5_0)]) E rfl hl dX9_feed_21 (by decide) rfl (fun ls hl => ?_)
    have L_23 : ∀ (N_23 : Nat) (th_j23 : OS) (w6_j23 : Int32) (H : Heap) (locs : List Loc) (ls : Array Slot) (hW : WD k A s.heap (wModel k a_th th_j23) H locs) (hl : lv_has ls 8 [(0, .ref (a_th 0)), (1, .int v1_0), (2, .int v2_0), (3, .int v3_0), (4, .int v4_0), (5, .int v5_0), (6, .int w6_j23)]) (hf : l_X9_feed_23 n v1_0 v2_0 v3_0 v4_0 v5_0 N_23 th_j23 w6_j23 = some res), W p l e { frames := 0, cells := 0, slots := 0, locals := 0 } s m args below meth c H locs 0 0 Q (F0 m 23 ls []) := by
      intro N_23
      induction N_23 with
      | zero => intro th_j23 w6_j23 H locs ls hW hl hf; exact o0 hf
      | succ N_23 ih_23 =>
        intro th_j23 w6_j23 H locs ls hW hl hf
        have hf : s_X9_feed_23 n v1_0 v2_0 v3_0 v4_0 v5_0 (l_X9_feed_23 n v1_0 v2_0 v3_0 v4_0 v5_0 N_23) th_j23 w6_j23 = some res := hf
        unfold s_X9_feed_23 at hf
        refine k_iload E hl 6 dX9_feed_23 rfl ?_
        refine lv_bipush (v := (20 : Int32)) E.hx E.hb dX9_feed_25 bp_20 ?_
        refine lv_icmp_ge (tgt := 117) E.hx E.hb dX9_feed_27 (by decide) (fun hc => ?_) (fun hc => ?_)
        · have hf := oT hc hf
          refine k_aload_n E hl 0 dX9_feed_117 rfl ?_
          refine gf_X9_327 E hW 0 rfl rfl dX9_feed_118 ?_
          exact hret _ th_j23 _ _ _ _ _ _ hW (Option.some.inj hf).symm rfl (by decide) (by decide) dX9_feed_121
        · have hf := oF hc hf
          refine k_iload E hl 6 dX9_feed_30 rfl ?_
          refine lv_iconst (v := (4 : Int32)) E.hx E.hb dX9_feed_32 ic_4 ?_
          have J_76 : ∀ (th_j76 : OS) (w6_j76 : Int32) (s0_j76 : Int32) (H : Heap) (locs : List Loc) (ls : Array Slot) (hW : WD k A s.heap (wModel k a_th th_j76) H locs) (hl : lv_has ls 8 [(0, .ref (a_th 0)), (1, .int v1_0), (2, .int v2_0), (3, .int v3_0), (4, .int v4_0), (5, .int v5_0), (6, .int w6_j76)]) (hf : j_X9_feed_76 n v1_0 v2_0 v3_0 v4_0 v5_0 (l_X9_feed_23 n v1_0 v2_0 v3_0 v4_0 v5_0 N_23) th_j76 w6_j76 s0_j76 = some res), W p l e { frames := 0, cells := 0, slots := 0, locals := 0 } s m args below meth c H locs 0 0 Q (F0 m 76 ls [.int s0_j76]) := by
            intro th_j76 w6_j76 s0_j76 H locs ls hW hl hf
            unfold j_X9_feed_76 at hf
            refine k_istore (lv' := [(7, .int s0_j76), (0, .ref (a_th 0)), (1, .int v1_0), (2, .int v2_0), (3, .int v3_0), (4, .int v4_0), (5, .int v5_0), (6, .int w6_j76)]) E rfl hl dX9_feed_76 (by decide) rfl (fun ls hl => ?_)
            refine k_aload_n E hl 1 dX9_feed_78 rfl ?_
            refine gf_X9_42 E hW 0 rfl rfl dX9_feed_79 ?_
            refine k_aload_n E hl 1 dX9_feed_82 rfl ?_
            refine gf_X9_327 E hW 0 rfl rfl dX9_feed_83 ?_
            refine k_iload E hl 0 dX9_feed_86 rfl ?_
            refine lv_bipush (v := (24 : Int32)) E.hx E.hb dX9_feed_88 bp_24 ?_
            refine lv_bipush (v := (8 : Int32)) E.hx E.hb dX9_feed_90 bp_8 ?_
            refine k_iload E hl 7 dX9_feed_92 rfl ?_
            refine lv_iconst (v := (4 : Int32)) E.hx E.hb dX9_feed_94 ic_4 ?_
            refine lv_irem E.hx E.hb dX9_feed_95 (by decide) ?_
            refine lv_imul E.hx E.hb dX9_feed_96 ?_
            refine lv_isub E.hx E.hb dX9_feed_97 ?_
            refine lv_ishr E.hx E.hb dX9_feed_98 ?_
            refine lv_i2b (v := ((s0_j76 >>> (((24 : Int32) - ((8 : Int32) * (rm32 w6_j76 (4 : Int32)))) &&& 31))).toInt8.toInt32) E.hx E.hb dX9_feed_99 rfl ?_
            obtain ⟨hin, hf⟩ := oI hf
            obtain ⟨th_2, eth_2, hf⟩ := oL hf
            refine k_bast (ws2 := wModel k a_th th_2) E hW 9 rfl hin dX9_feed_100 (by rw [eth_2]; rfl) (fun H locs hW => ?_)
            refine k_aload_n E hl 1 dX9_feed_101 rfl ?_
            refine k_aload_n E hl 1 dX9_feed_102 rfl ?_
            refine gf_X9_327 E hW 0 rfl rfl dX9_feed_103 ?_
            refine lv_iconst (v := (1 : Int32)) E.hx E.hb dX9_feed_106 ic_1 ?_
            refine lv_iadd E.hx E.hb dX9_feed_107 ?_
            obtain ⟨th_3, eth_3, hf⟩ := oL hf
            refine pf_X9_327 (ws2 := wModel k a_th th_3) E hW 0 rfl rfl rfl (Nat.le_of_ble_eq_true rfl) dX9_feed_108 (by rw [eth_3]; rfl) (fun H locs hW => ?_)
            obtain ⟨v6_4, ev6_4, hf⟩ := oL hf
            refine k_iinc (lv' := [(6, .int v6_4), (7, .int s0_j76), (0, .ref (a_th 0)), (1, .int v1_0), (2, .int v2_0), (3, .int v3_0), (4, .int v4_0), (5, .int v5_0)]) E hl 7 dX9_feed_111 rfl (ev6_4.trans (congrArg (fun z => w6_j76 + z) ic_1.symm)) (by decide) rfl (fun ls hl => ?_)
            refine lv_goto (tgt := 23) E.hx E.hb dX9_feed_114 (by decide) ?_
            exact ih_23 th_3 v6_4 _ _ _ hW (lv_sub hl [2, 3, 4, 5, 6, 7, 0] rfl) hf
          refine lv_icmp_ge (tgt := 40) E.hx E.hb dX9_feed_33 (by decide) (fun hc => ?_) (fun hc => ?_)
          · have hf := oT hc hf
            refine k_iload E hl 6 dX9_feed_40 rfl ?_
            refine lv_bipush (v := (8 : Int32)) E.hx E.hb dX9_feed_42 bp_8 ?_
            refine lv_icmp_ge (tgt := 51) E.hx E.hb dX9_feed_44 (by decide) (fun hc => ?_) (fun hc => ?_)
            · have hf := oT hc hf
              refine k_iload E hl 6 dX9_feed_51 rfl ?_
              refine lv_bipush (v := (12 : Int32)) E.hx E.hb dX9_feed_53 bp_12 ?_
              refine lv_icmp_ge (tgt := 62) E.hx E.hb dX9_feed_55 (by decide) (fun hc => ?_) (fun hc => ?_)
              · have hf := oT hc hf
                refine k_iload E hl 6 dX9_feed_62 rfl ?_
                refine lv_bipush (v := (16 : Int32)) E.hx E.hb dX9_feed_64 bp_16 ?_
                refine lv_icmp_ge (tgt := 74) E.hx E.hb dX9_feed_66 (by decide) (fun hc => ?_) (fun hc => ?_)
                · have hf := oT hc hf
                  refine k_iload E hl 5 dX9_feed_74 rfl ?_
                  exact J_76 th_j23 w6_j23 v5_0 _ _ _ hW (lv_sub hl [0, 1, 2, 3, 4, 5, 6] rfl) hf
                · have hf := oF hc hf
                  refine k_iload E hl 4 dX9_feed_69 rfl ?_
                  refine lv_goto (tgt := 76) E.hx E.hb dX9_feed_71 (by decide) ?_
                  exact J_76 th_j23 w6_j23 v4_0 _ _ _ hW (lv_sub hl [0, 1, 2, 3, 4, 5, 6] rfl) hf
              · have hf := oF hc hf
                refine k_iload_n E hl 3 dX9_feed_58 rfl ?_
                refine lv_goto (tgt := 76) E.hx E.hb dX9_feed_59 (by decide) ?_
                exact J_76 th_j23 w6_j23 v3_0 _ _ _ hW (lv_sub hl [0, 1, 2, 3, 4, 5, 6] rfl) hf
            · have hf := oF hc hf
              refine k_iload_n E hl 2 dX9_feed_47 rfl ?_
              refine lv_goto (tgt := 76) E.hx E.hb dX9_feed_48 (by decide) ?_
              exact J_76 th_j23 w6_j23 v2_0 _ _ _ hW (lv_sub hl [0, 1, 2, 3, 4, 5, 6] rfl) hf
          · have hf := oF hc hf
            refine k_iload_n E hl 1 dX9_feed_36 rfl ?_
            refine lv_goto (tgt := 76) E.hx E.hb dX9_feed_37 (by decide) ?_
            exact J_76 th_j23 w6_j23 v1_0 _ _ _ hW (lv_sub hl [0, 1, 2, 3, 4, 5, 6] rfl) hf
    exact L_23 n th_1 (0 : Int32) _ _ _ hW (lv_sub hl [1, 2, 3, 4, 5, 6, 0] rfl) hf
  · have hf := oF hc hf
    refine lv_iconst (v := (-1 : Int32)) E.hx E.hb dX9_feed_18 ic_m1 ?_
    exact hret _ th_1 _ _ _ _ _ _ hW (Option.some.inj hf).symm rfl (by decide) (by decide) dX9_feed_19
def f_X9_truncate (n : Nat) (th_0 : OS) (v1_0 : Int32) : Option (OS × Int32) :=
  Let (sI th_0 0 (0 : Int32)) (fun th_1 : OS =>
  bnd (f_X9_isIn n ((v1_0).toInt64) (0 : Int64) (((th_1.1 23)).toInt64)) (fun (r_2 : Int32) =>
  if r_2 = 0 then (
  some (th_1, (0 : Int32))) else (
  Let (sI th_1 23 v1_0) (fun th_3 : OS =>
  some (th_3, (1 : Int32))))))
set_option maxHeartbeats 4000000 in
set_option maxRecDepth 100000 in
theorem c_X9_truncate (n : Nat) (l : Launch) (k : KT) (a_th : Nat → Nat) (th_0 : OS) (v1_0 : Int32) (res : (OS × Int32)) (hf : f_X9_truncate n th_0 v1_0 = some res) : CG l k yX9_truncate cX9_truncate 2 (some .boolean) 1 0 0 25 [.ref (a_th 0), .int v1_0] (wModel k a_th th_0) (Qi k (fun u : OS => wModel k a_th u) (fun (r : Int32) (u : OS) => res = (u, r))) := by
  refine CG.ofI (by decide) (Nat.le_of_ble_eq_true rfl) (fun p e s m args below meth c A Q E hnm hW hA hret ls hl => ?_)
  have hl : lv_has ls 2 [(0, .ref (a_th 0)), (1, .int v1_0)] := hl
  unfold f_X9_truncate at hf
  refine k_aload_n E hl 0 dX9_truncate_0 rfl ?_
  refine lv_iconst (v := (0 : Int32)) E.hx E.hb dX9_truncate_1 ic_0 ?_
  obtain ⟨th_1, eth_1, hf⟩ := oL hf
  refine pf_X9_67 (ws2 := wModel k a_th th_1) E hW 0 rfl rfl rfl (Nat.le_of_ble_eq_true rfl) dX9_truncate_2 (by rw [eth_1]; rfl) (fun H locs hW => ?_)
  refine k_iload_n E hl 1 dX9_truncate_5 rfl ?_
  refine lv_i2l (v := (v1_0).toInt64) E.hx E.hb dX9_truncate_6 rfl ?_
  refine lv_lconst (v := (0 : Int64)) E.hx E.hb dX9_truncate_7 (by decide) ?_
  refine k_aload_n E hl 0 dX9_truncate_8 rfl ?_
  refine gf_X9_327 E hW 0 rfl rfl dX9_truncate_9 ?_
  refine lv_i2l (v := ((th_1.1 23)).toInt64) E.hx E.hb dX9_truncate_12 rfl ?_
  obtain ⟨r_2, hg, hf⟩ := ob hf
  refine k_callSi (As := [.long ((v1_0).toInt64), .long (0 : Int64), .long (((th_1.1 23)).toInt64)]) (rest := []) (ws2 := fun u => wModel k a_th th_1) (c_X9_isIn n l k ((v1_0).toInt64) (0 : Int64) (((th_1.1 23)).toInt64) r_2 hg) E sl_X9_92 dX9_truncate_13 rfl [] hW hA hl rfl rfl ⟨by decide, by decide⟩ ⟨by decide, by decide⟩ (Nat.le_of_ble_eq_true rfl) rfl (fun _ => rfl) (fun _ => rfl) (fun r u H locs hp hW => ?_)
  cases hp
  have hW : WD k A s.heap (wModel k a_th th_1) H locs := hW
  refine lv_if_ne (tgt := 21) E.hx E.hb dX9_truncate_16 (by decide) (fun hc => ?_) (fun hc => ?_)
  · have hf := oF hc hf
    refine k_aload_n E hl 0 dX9_truncate_21 rfl ?_
    refine k_iload_n E hl 1 dX9_truncate_22 rfl ?_
    obtain ⟨th_3, eth_3, hf⟩ := oL hf
    refine pf_X9_327 (ws2 := wModel k a_th th_3) E hW 0 rfl rfl rfl (Nat.le_of_ble_eq_true rfl) dX9_truncate_23 (by rw [eth_3]; rfl) (fun H locs hW => ?_)
    refine lv_iconst (v := (1 : Int32)) E.hx E.hb dX9_truncate_26 ic_1 ?_
    exact hret _ th_3 _ _ _ _ _ _ hW (Option.some.inj hf).symm (by decide) (by decide) (by decide) dX9_truncate_27
  · have hf := oT hc hf
    refine lv_iconst (v := (0 : Int32)) E.hx E.hb dX9_truncate_19 ic_0 ?_
    exact hret _ th_1 _ _ _ _ _ _ hW (Option.some.inj hf).symm (by decide) (by decide) (by decide) dX9_truncate_20
def f_X9_here (n : Nat) (th_0 : OS) (v1_0 : Int32) : Option (Int32) :=
  if (th_0.1 24) ≤ v1_0 then (
  some (-1 : Int32)) else (
  gI 600 v1_0 (Let ((th_0.2.1 22) v1_0.toNatClampNeg) (fun x_1 : Int32 =>
  some (x_1 &&& (255 : Int32)))))
set_option maxHeartbeats 4000000 in
set_option maxRecDepth 100000 in
theorem c_X9_here (n : Nat) (l : Launch) (k : KT) (a_th : Nat → Nat) (th_0 : OS) (v1_0 : Int32) (res : (Int32)) (hf : f_X9_here n th_0 v1_0 = some res) : CG l k yX9_here cX9_here 2 (some .int) 0 0 0 0 [.ref (a_th 0), .int v1_0] (wModel k a_th th_0) (Qi k (fun u : Unit => wModel k a_th th_0) (fun (r : Int32) (u : Unit) => res = r)) := by
  refine CG.ofI (by decide) (Nat.le_of_ble_eq_true rfl) (fun p e s m args below meth c A Q E hnm hW hA hret ls hl => ?_)
  have hl : lv_has ls 2 [(0, .ref (a_th 0)), (1, .int v1_0)] := hl
  unfold f_X9_here at hf
  refine k_iload_n E hl 1 dX9_here_0 rfl ?_
  refine k_aload_n E hl 0 dX9_here_1 rfl ?_
  refine gf_X9_330 E hW 0 rfl rfl dX9_here_2 ?_
  refine lv_icmp_ge (tgt := 21) E.hx E.hb dX9_here_5 (by decide) (fun hc => ?_) (fun hc => ?_)
  · have hf := oT hc hf
    refine lv_iconst (v := (-1 : Int32)) E.hx E.hb dX9_here_21 ic_m1 ?_
    exact hret _ () _ _ _ _ _ _ hW (Option.some.inj hf).symm rfl (by decide) (by decide) dX9_here_22
  · have hf := oF hc hf
    refine k_aload_n E hl 0 dX9_here_8 rfl ?_
    refine gf_X9_42 E hW 0 rfl rfl dX9_here_9 ?_
    refine k_iload_n E hl 1 dX9_here_12 rfl ?_
    obtain ⟨hin, hf⟩ := oI hf
    obtain ⟨x_1, ex_1, hf⟩ := oL hf
    refine k_bald E hW 9 rfl hin dX9_here_13 ?_
    refine k_topi ex_1 ?_
    refine lv_sipush (v := (255 : Int32)) E.hx E.hb dX9_here_14 sp_255 ?_
    refine lv_iand E.hx E.hb dX9_here_17 ?_
    refine lv_goto (tgt := 22) E.hx E.hb dX9_here_18 (by decide) ?_
    exact hret _ () _ _ _ _ _ _ hW (Option.some.inj hf).symm rfl (by decide) (by decide) dX9_here_22
def f_X9_isLetter (n : Nat) (th_0 : OS) (v1_0 : Int32) : Option (Int32) :=
  bnd (f_X9_here n th_0 v1_0) (fun (r_1 : Int32) =>
  bnd (f_X9_isIn n ((r_1).toInt64) (97 : Int64) (122 : Int64)) (fun (r_2 : Int32) =>
  gZ r_2 (some r_2)))
set_option maxHeartbeats 4000000 in
set_option maxRecDepth 100000 in
theorem c_X9_isLetter (n : Nat) (l : Launch) (k : KT) (a_th : Nat → Nat) (th_0 : OS) (v1_0 : Int32) (res : (Int32)) (hf : f_X9_isLetter n th_0 v1_0 = some res) : CG l k yX9_isLetter cX9_isLetter 2 (some .boolean) 1 0 0 25 [.ref (a_th 0), .int v1_0] (wModel k a_th th_0) (Qi k (fun u : Unit => wModel k a_th th_0) (fun (r : Int32) (u : Unit) => res = r)) := by
  refine CG.ofI (by decide) (Nat.le_of_ble_eq_true rfl) (fun p e s m args below meth c A Q E hnm hW hA hret ls hl => ?_)
  have hl : lv_has ls 2 [(0, .ref (a_th 0)), (1, .int v1_0)] := hl
  unfold f_X9_isLetter at hf
  refine k_aload_n E hl 0 dX9_isLetter_0 rfl ?_
  refine k_iload_n E hl 1 dX9_isLetter_1 rfl ?_
  obtain ⟨r_1, hg, hf⟩ := ob hf
  refine k_callVi (As := [.int v1_0]) (rest := []) (ws2 := fun u => wModel k a_th th_0) (c_X9_here n l k a_th th_0 v1_0 r_1 hg) E vl_X9_333 dX9_isLetter_2 rfl [0, 1, 2, 3, 4, 5, 6, 7, 8, 9, 10, 11, 12] 7 0 hW hA hl rfl rfl rfl rfl ⟨by decide, by decide⟩ ⟨by decide, by decide⟩ (Nat.le_of_ble_eq_true rfl) rfl (fun _ => rfl) (fun _ => rfl) (fun r u H locs hp hW => ?_)
  cases hp
  have hW : WD k A s.heap (wModel k a_th th_0) H locs := hW
  refine lv_i2l (v := (r_1).toInt64) E.hx E.hb dX9_isLetter_5 rfl ?_
  refine lv_ldc2 E.hx E.hb E.ho (E.w tm_1855 rfl) dX9_isLetter_6 ?_
  refine lv_ldc2 E.hx E.hb E.ho (E.w tm_1856 rfl) dX9_isLetter_9 ?_
  obtain ⟨r_2, hg, hf⟩ := ob hf
  refine k_callSi (As := [.long ((r_1).toInt64), .long (97 : Int64), .long (122 : Int64)]) (rest := []) (ws2 := fun u => wModel k a_th th_0) (c_X9_isIn n l k ((r_1).toInt64) (97 : Int64) (122 : Int64) r_2 hg) E sl_X9_92 dX9_isLetter_12 rfl [] hW hA hl rfl rfl ⟨by decide, by decide⟩ ⟨by decide, by decide⟩ (Nat.le_of_ble_eq_true rfl) rfl (fun _ => rfl) (fun _ => rfl) (fun r u H locs hp hW => ?_)
  cases hp
  have hW : WD k A s.heap (wModel k a_th th_0) H locs := hW
  obtain ⟨hz, hf⟩ := oZ hf
  exact hret _ () _ _ _ _ _ _ hW (Option.some.inj hf).symm hz (by decide) (by decide) dX9_isLetter_15
def f_X9_errorCode (n : Nat) (th_0 : OS) : Option (OS × Int32) :=
  Let (sI th_0 0 (0 : Int32)) (fun th_1 : OS =>
  some (th_1, (th_1.1 31)))
set_option maxHeartbeats 4000000 in
set_option maxRecDepth 100000 in
theorem c_X9_errorCode (n : Nat) (l : Launch) (k : KT) (a_th : Nat → Nat) (th_0 : OS) (res : (OS × Int32)) (hf : f_X9_errorCode n th_0 = some res) : CG l k yX9_errorCode cX9_errorCode 1 (some .int) 0 0 0 0 [.ref (a_th 0)] (wModel k a_th th_0) (Qi k (fun u : OS => wModel k a_th u) (fun (r : Int32) (u : OS) => res = (u, r))) := by
  refine CG.ofI (by decide) (Nat.le_of_ble_eq_true rfl) (fun p e s m args below meth c A Q E hnm hW hA hret ls hl => ?_)
  have hl : lv_has ls 1 [(0, .ref (a_th 0))] := hl
  unfold f_X9_errorCode at hf
  refine k_aload_n E hl 0 dX9_errorCode_0 rfl ?_
  refine lv_iconst (v := (0 : Int32)) E.hx E.hb dX9_errorCode_1 ic_0 ?_
  obtain ⟨th_1, eth_1, hf⟩ := oL hf
  refine pf_X9_67 (ws2 := wModel k a_th th_1) E hW 0 rfl rfl rfl (Nat.le_of_ble_eq_true rfl) dX9_errorCode_2 (by rw [eth_1]; rfl) (fun H locs hW => ?_)
  refine k_aload_n E hl 0 dX9_errorCode_5 rfl ?_
  refine gf_X9_383 E hW 0 rfl rfl dX9_errorCode_6 ?_
  exact hret _ th_1 _ _ _ _ _ _ hW (Option.some.inj hf).symm rfl (by decide) (by decide) dX9_errorCode_9
def f_X9_errorOffset (n : Nat) (th_0 : OS) : Option (OS × Int32) :=
  Let (sI th_0 0 (0 : Int32)) (fun th_1 : OS =>
  some (th_1, (th_1.1 32)))
set_option maxHeartbeats 4000000 in
set_option maxRecDepth 100000 in
theorem c_X9_errorOffset (n : Nat) (l : Launch) (k : KT) (a_th : Nat → Nat) (th_0 : OS) (res : (OS × Int32)) (hf : f_X9_errorOffset n th_0 = some res) : CG l k yX9_errorOffset cX9_errorOffset 1 (some .int) 0 0 0 0 [.ref (a_th 0)] (wModel k a_th th_0) (Qi k (fun u : OS => wModel k a_th u) (fun (r : Int32) (u : OS) => res = (u, r))) := by
  refine CG.ofI (by decide) (Nat.le_of_ble_eq_true rfl) (fun p e s m args below meth c A Q E hnm hW hA hret ls hl => ?_)
  have hl : lv_has ls 1 [(0, .ref (a_th 0))] := hl
  unfold f_X9_errorOffset at hf
  refine k_aload_n E hl 0 dX9_errorOffset_0 rfl ?_
  refine lv_iconst (v := (0 : Int32)) E.hx E.hb dX9_errorOffset_1 ic_0 ?_
  obtain ⟨th_1, eth_1, hf⟩ := oL hf
  refine pf_X9_67 (ws2 := wModel k a_th th_1) E hW 0 rfl rfl rfl (Nat.le_of_ble_eq_true rfl) dX9_errorOffset_2 (by rw [eth_1]; rfl) (fun H locs hW => ?_)
  refine k_aload_n E hl 0 dX9_errorOffset_5 rfl ?_
  refine gf_X9_46 E hW 0 rfl rfl dX9_errorOffset_6 ?_
  exact hret _ th_1 _ _ _ _ _ _ hW (Option.some.inj hf).symm rfl (by decide) (by decide) dX9_errorOffset_9
def f_X9_outputByte (n : Nat) (th_0 : OS) (v1_0 : Int32) : Option (OS × Int32) :=
  Let (sI th_0 0 (0 : Int32)) (fun th_1 : OS =>
  bnd (f_X9_isIn n ((v1_0).toInt64) (0 : Int64) ((((th_1.1 40)).toInt64) - (1 : Int64))) (fun (r_2 : Int32) =>
  if r_2 = 0 then (
  some (th_1, (-1 : Int32))) else (
  gI 1000 v1_0 (Let ((th_1.2.1 39) v1_0.toNatClampNeg) (fun x_3 : Int32 =>
  some (th_1, x_3))))))
set_option maxHeartbeats 4000000 in
set_option maxRecDepth 100000 in
theorem c_X9_outputByte (n : Nat) (l : Launch) (k : KT) (a_th : Nat → Nat) (th_0 : OS) (v1_0 : Int32) (res : (OS × Int32)) (hf : f_X9_outputByte n th_0 v1_0 = some res) : CG l k yX9_outputByte cX9_outputByte 2 (some .int) 1 0 0 25 [.ref (a_th 0), .int v1_0] (wModel k a_th th_0) (Qi k (fun u : OS => wModel k a_th u) (fun (r : Int32) (u : OS) => res = (u, r))) := by
  refine CG.ofI (by decide) (Nat.le_of_ble_eq_true rfl) (fun p e s m args below meth c A Q E hnm hW hA hret ls hl => ?_)
  have hl : lv_has ls 2 [(0, .ref (a_th 0)), (1, .int v1_0)] := hl
  unfold f_X9_outputByte at hf
  refine k_aload_n E hl 0 dX9_outputByte_0 rfl ?_
  refine lv_iconst (v := (0 : Int32)) E.hx E.hb dX9_outputByte_1 ic_0 ?_
  obtain ⟨th_1, eth_1, hf⟩ := oL hf
  refine pf_X9_67 (ws2 := wModel k a_th th_1) E hW 0 rfl rfl rfl (Nat.le_of_ble_eq_true rfl) dX9_outputByte_2 (by rw [eth_1]; rfl) (fun H locs hW => ?_)
  refine k_iload_n E hl 1 dX9_outputByte_5 rfl ?_
  refine lv_i2l (v := (v1_0).toInt64) E.hx E.hb dX9_outputByte_6 rfl ?_
  refine lv_lconst (v := (0 : Int64)) E.hx E.hb dX9_outputByte_7 (by decide) ?_
  refine k_aload_n E hl 0 dX9_outputByte_8 rfl ?_
  refine gf_X9_438 E hW 0 rfl rfl dX9_outputByte_9 ?_
  refine lv_i2l (v := ((th_1.1 40)).toInt64) E.hx E.hb dX9_outputByte_12 rfl ?_
  refine lv_lconst (v := (1 : Int64)) E.hx E.hb dX9_outputByte_13 (by decide) ?_
  refine lv_lsub E.hx E.hb dX9_outputByte_14 ?_
  obtain ⟨r_2, hg, hf⟩ := ob hf
  refine k_callSi (As := [.long ((v1_0).toInt64), .long (0 : Int64), .long ((((th_1.1 40)).toInt64) - (1 : Int64))]) (rest := []) (ws2 := fun u => wModel k a_th th_1) (c_X9_isIn n l k ((v1_0).toInt64) (0 : Int64) ((((th_1.1 40)).toInt64) - (1 : Int64)) r_2 hg) E sl_X9_92 dX9_outputByte_15 rfl [] hW hA hl rfl rfl ⟨by decide, by decide⟩ ⟨by decide, by decide⟩ (Nat.le_of_ble_eq_true rfl) rfl (fun _ => rfl) (fun _ => rfl) (fun r u H locs hp hW => ?_)
  cases hp
  have hW : WD k A s.heap (wModel k a_th th_1) H locs := hW
  refine lv_if_eq (tgt := 30) E.hx E.hb dX9_outputByte_18 (by decide) (fun hc => ?_) (fun hc => ?_)
  · have hf := oT hc hf
    refine lv_iconst (v := (-1 : Int32)) E.hx E.hb dX9_outputByte_30 ic_m1 ?_
    exact hret _ th_1 _ _ _ _ _ _ hW (Option.some.inj hf).symm rfl (by decide) (by decide) dX9_outputByte_31
  · have hf := oF hc hf
    refine k_aload_n E hl 0 dX9_outputByte_21 rfl ?_
    refine gf_X9_55 E hW 0 rfl rfl dX9_outputByte_22 ?_
    refine k_iload_n E hl 1 dX9_outputByte_25 rfl ?_
    obtain ⟨hin, hf⟩ := oI hf
    obtain ⟨x_3, ex_3, hf⟩ := oL hf
    refine k_bald E hW 12 rfl hin dX9_outputByte_26 ?_
    refine k_topi ex_3 ?_
    refine lv_goto (tgt := 31) E.hx E.hb dX9_outputByte_27 (by decide) ?_
    exact hret _ th_1 _ _ _ _ _ _ hW (Option.some.inj hf).symm rfl (by decide) (by decide) dX9_outputByte_31
def s_X9_indexOf_3 (n : Nat) (z_p0 : Nat) (p0_0 : Nat → Int64) (w1_j3 : Int32) (w2_j3 : Int64) (rc_3 : (Int32) → Option (Int32)) (w4_j3 : Int32) : Option (Int32) :=
  if w1_j3 ≤ w4_j3 then (
  some (-1 : Int32)) else (
  gI z_p0 w4_j3 (Let (p0_0 w4_j3.toNatClampNeg) (fun x_1 : Int64 =>
  if (lg_cmp x_1 w2_j3) = 0 then (
  some w4_j3) else (
  Let (w4_j3 + (1 : Int32)) (fun v4_2 : Int32 =>
  rc_3 v4_2)))))
def l_X9_indexOf_3 (n : Nat) (z_p0 : Nat) (p0_0 : Nat → Int64) (w1_j3 : Int32) (w2_j3 : Int64) : Nat → (Int32) → Option (Int32)
  | 0 => fun _ => none
  | N + 1 => s_X9_indexOf_3 n z_p0 p0_0 w1_j3 w2_j3 (l_X9_indexOf_3 n z_p0 p0_0 w1_j3 w2_j3 N)
def f_X9_indexOf (n : Nat) (z_p0 : Nat) (p0_0 : Nat → Int64) (v1_0 : Int32) (v2_0 : Int64) : Option (Int32) :=
  l_X9_indexOf_3 n z_p0 p0_0 v1_0 v2_0 n (0 : Int32)
set_option maxHeartbeats 4000000 in
set_option maxRecDepth 100000 in
theorem c_X9_indexOf (n : Nat) (l : Launch) (k : KT) (a_p0 : Nat → Nat) (z_p0 : Nat) (p0_0 : Nat → Int64) (v1_0 : Int32) (v2_0 : Int64) (res : (Int32)) (hf : f_X9_indexOf n z_p0 p0_0 v1_0 v2_0 = some res) : CG l k yX9_indexOf cX9_indexOf 5 (some .int) 0 0 0 0 [.ref (a_p0 0), .int v1_0, .long v2_0] (wJArr k a_p0 z_p0 p0_0) (Qi k (fun u : Unit => wJArr k a_p0 z_p0 p0_0) (fun (r : Int32) (u : Unit) => res = r)) := by
  refine CG.ofI (by decide) (Nat.le_of_ble_eq_true rfl) (fun p e s m args below meth c A Q E hnm hW hA hret ls hl => ?_)
  have hl : lv_has ls 5 [(0, .ref (a_p0 0)), (1, .int v1_0), (2, .long v2_0)] := hl
  unfold f_X9_indexOf at hf
  refine lv_iconst (v := (0 : Int32)) E.hx E.hb dX9_indexOf_0 ic_0 ?_
  refine k_istore (lv' := [(4, .int (0 : Int32)), (0, .ref (a_p0 0)), (1, .int v1_0), (2, .long v2_0)]) E rfl hl dX9_indexOf_1 (by decide) rfl (fun ls hl => ?_)
  have L_3 : ∀ (N_3 : Nat) (w4_j3 : Int32) (H : Heap) (locs : List Loc) (ls : Array Slot) (hW : WD k A s.heap (wJArr k a_p0 z_p0 p0_0) H locs) (hl : lv_has ls 5 [(0, .ref (a_p0 0)), (1, .int v1_0), (2, .long v2_0), (4, .int w4_j3)]) (hf : l_X9_indexOf_3 n z_p0 p0_0 v1_0 v2_0 N_3 w4_j3 = some res), W p l e { frames := 0, cells := 0, slots := 0, locals := 0 } s m args below meth c H locs 0 0 Q (F0 m 3 ls []) := by
    intro N_3
    induction N_3 with
    | zero => intro w4_j3 H locs ls hW hl hf; exact o0 hf
    | succ N_3 ih_3 =>
      intro w4_j3 H locs ls hW hl hf
      have hf : s_X9_indexOf_3 n z_p0 p0_0 v1_0 v2_0 (l_X9_indexOf_3 n z_p0 p0_0 v1_0 v2_0 N_3) w4_j3 = some res := hf
      unfold s_X9_indexOf_3 at hf
      refine k_iload E hl 3 dX9_indexOf_3 rfl ?_
      refine k_iload_n E hl 1 dX9_indexOf_5 rfl ?_
      refine lv_icmp_ge (tgt := 27) E.hx E.hb dX9_indexOf_6 (by decide) (fun hc => ?_) (fun hc => ?_)
      · have hf := oT hc hf
        refine lv_iconst (v := (-1 : Int32)) E.hx E.hb dX9_indexOf_27 ic_m1 ?_
        exact hret _ () _ _ _ _ _ _ hW (Option.some.inj hf).symm rfl (by decide) (by decide) dX9_indexOf_28
      · have hf := oF hc hf
        refine k_aload_n E hl 0 dX9_indexOf_9 rfl ?_
        refine k_iload E hl 3 dX9_indexOf_10 rfl ?_
        obtain ⟨hin, hf⟩ := oI hf
        obtain ⟨x_1, ex_1, hf⟩ := oL hf
        refine k_lald E hW 0 rfl hin dX9_indexOf_12 ?_
        refine k_topl ex_1 ?_
        refine k_lload_n E hl 2 dX9_indexOf_13 rfl ?_
        refine W.lcmp E.hx E.hb dX9_indexOf_14 ?_
        refine lv_if_ne (tgt := 21) E.hx E.hb dX9_indexOf_15 (by decide) (fun hc => ?_) (fun hc => ?_)
        · have hf := oF hc hf
          obtain ⟨v4_2, ev4_2, hf⟩ := oL hf
          refine k_iinc (lv' := [(4, .int v4_2), (0, .ref (a_p0 0)), (1, .int v1_0), (2, .long v2_0)]) E hl 3 dX9_indexOf_21 rfl (ev4_2.trans (congrArg (fun z => w4_j3 + z) ic_1.symm)) (by decide) rfl (fun ls hl => ?_)
          refine lv_goto (tgt := 3) E.hx E.hb dX9_indexOf_24 (by decide) ?_
          exact ih_3 v4_2 _ _ _ hW (lv_sub hl [1, 2, 3, 0] rfl) hf
        · have hf := oT hc hf
          refine k_iload E hl 3 dX9_indexOf_18 rfl ?_
          exact hret _ () _ _ _ _ _ _ hW (Option.some.inj hf).symm rfl (by decide) (by decide) dX9_indexOf_20
  exact L_3 n (0 : Int32) _ _ _ hW (lv_sub hl [1, 2, 3, 0] rfl) hf
def s_X9_find_34 (n : Nat) (w1_j34 : Int32) (rc_34 : (OS) → (Int64) → (Int32) → Option (OS × Int32)) (th_j34 : OS) (w2_j34 : Int64) (w4_j34 : Int32) : Option (OS × Int32) :=
  if w1_j34 ≤ w4_j34 then (
  bnd (f_X9_indexOf n 8 (th_j34.2.2.1 8) (th_j34.1 2) w2_j34) (fun (r_5 : Int32) =>
  some (th_j34, r_5))) else (
  gI 600 w4_j34 (Let ((th_j34.2.1 22) w4_j34.toNatClampNeg) (fun x_6 : Int32 =>
  bnd (f_X9_isIn n ((x_6).toInt64) (97 : Int64) (122 : Int64)) (fun (r_7 : Int32) =>
  if r_7 = 0 then (
  some (th_j34, (-1 : Int32))) else (
  gI 600 w4_j34 (Let ((th_j34.2.1 22) w4_j34.toNatClampNeg) (fun x_8 : Int32 =>
  Let ((((32 : Int64) * w2_j34) + ((x_8).toInt64)) - (96 : Int64)) (fun v2_9 : Int64 =>
  Let (w4_j34 + (1 : Int32)) (fun v4_10 : Int32 =>
  rc_34 th_j34 v2_9 v4_10)))))))))
def l_X9_find_34 (n : Nat) (w1_j34 : Int32) : Nat → (OS) → (Int64) → (Int32) → Option (OS × Int32)
  | 0 => fun _ _ _ => none
  | N + 1 => s_X9_find_34 n w1_j34 (l_X9_find_34 n w1_j34 N)
def f_X9_find (n : Nat) (th_0 : OS) : Option (OS × Int32) :=
  Let (sI th_0 0 (0 : Int32)) (fun th_1 : OS =>
  Let (th_1.1 23) (fun v1_2 : Int32 =>
  Let (sI th_1 23 (0 : Int32)) (fun th_3 : OS =>
  bnd (f_X9_isIn n ((v1_2).toInt64) (1 : Int64) (6 : Int64)) (fun (r_4 : Int32) =>
  if r_4 = 0 then (
  some (th_3, (-1 : Int32))) else (
  l_X9_find_34 n v1_2 n th_3 (0 : Int64) (0 : Int32))))))
set_option maxHeartbeats 4000000 in
set_option maxRecDepth 100000 in
theorem c_X9_find (n : Nat) (l : Launch) (k : KT) (a_th : Nat → Nat) (th_0 : OS) (res : (OS × Int32)) (hf : f_X9_find n th_0 = some res) : CG l k yX9_find cX9_find 5 (some .int) 1 0 0 25 [.ref (a_th 0)] (wModel k a_th th_0) (Qi k (fun u : OS => wModel k a_th u) (fun (r : Int32) (u : OS) => res = (u, r))) := by
  refine CG.ofI (by decide) (Nat.le_of_ble_eq_true rfl) (fun p e s m args below meth c A Q E hnm hW hA hret ls hl => ?_)
  have hl : lv_has ls 5 [(0, .ref (a_th 0))] := hl
  unfold f_X9_find at hf
  refine k_aload_n E hl 0 dX9_find_0 rfl ?_
  refine lv_iconst (v := (0 : Int32)) E.hx E.hb dX9_find_1 ic_0 ?_
  obtain ⟨th_1, eth_1, hf⟩ := oL hf
  refine pf_X9_67 (ws2 := wModel k a_th th_1) E hW 0 rfl rfl rfl (Nat.le_of_ble_eq_true rfl) dX9_find_2 (by rw [eth_1]; rfl) (fun H locs hW => ?_)
  refine k_aload_n E hl 0 dX9_find_5 rfl ?_
  refine gf_X9_327 E hW 0 rfl rfl dX9_find_6 ?_
  obtain ⟨v1_2, ev1_2, hf⟩ := oL hf
  refine k_istore_n (lv' := [(1, .int v1_2), (0, .ref (a_th 0))]) E ev1_2 hl dX9_find_9 rfl (by decide) rfl (fun ls hl => ?_)
  refine k_aload_n E hl 1 dX9_find_10 rfl ?_
  refine lv_iconst (v := (0 : Int32)) E.hx E.hb dX9_find_11 ic_0 ?_
  obtain ⟨th_3, eth_3, hf⟩ := oL hf
  refine pf_X9_327 (ws2 := wModel k a_th th_3) E hW 0 rfl rfl rfl (Nat.le_of_ble_eq_true rfl) dX9_find_12 (by rw [eth_3]; rfl) (fun H locs hW => ?_)
  refine k_iload_n E hl 0 dX9_find_15 rfl ?_
  refine lv_i2l (v := (v1_2).toInt64) E.hx E.hb dX9_find_16 rfl ?_
  refine lv_lconst (v := (1 : Int64)) E.hx E.hb dX9_find_17 (by decide) ?_
  refine lv_ldc2 E.hx E.hb E.ho (E.w tm_1730 rfl) dX9_find_18 ?_
  obtain ⟨r_4, hg, hf⟩ := ob hf
  refine k_callSi (As := [.long ((v1_2).toInt64), .long (1 : Int64), .long (6 : Int64)]) (rest := []) (ws2 := fun u => wModel k a_th th_3) (c_X9_isIn n l k ((v1_2).toInt64) (1 : Int64) (6 : Int64) r_4 hg) E sl_X9_92 dX9_find_21 rfl [] hW hA hl rfl rfl ⟨by decide, by decide⟩ ⟨by decide, by decide⟩ (Nat.le_of_ble_eq_true rfl) rfl (fun _ => rfl) (fun _ => rfl) (fun r u H locs hp hW => ?_)
  cases hp
  have hW : WD k A s.heap (wModel k a_th th_3) H locs := hW
  refine lv_if_ne (tgt := 29) E.hx E.hb dX9_find_24 (by decide) (fun hc => ?_) (fun hc => ?_)
  · have hf := oF hc hf
    refine lv_lconst (v := (0 : Int64)) E.hx E.hb dX9_find_29 (by decide) ?_
    refine k_lstore_n (lv' := [(2, .long (0 : Int64)), (1, .int v1_2), (0, .ref (a_th 0))]) E rfl hl dX9_find_30 rfl (by decide) rfl (fun ls hl => ?_)
    refine lv_iconst (v := (0 : Int32)) E.hx E.hb dX9_find_31 ic_0 ?_
    refine k_istore (lv' := [(4, .int (0 : Int32)), (2, .long (0 : Int64)), (1, .int v1_2), (0, .ref (a_th 0))]) E rfl hl dX9_find_32 (by decide) rfl (fun ls hl => ?_)
    have L_34 : ∀ (N_34 : Nat) (th_j34 : OS) (w2_j34 : Int64) (w4_j34 : Int32) (H : Heap) (locs : List Loc) (ls : Array Slot) (hW : WD k A s.heap (wModel k a_th th_j34) H locs) (hl : lv_has ls 5 [(0, .ref (a_th 0)), (1, .int v1_2), (2, .long w2_j34), (4, .int w4_j34)]) (hf : l_X9_find_34 n v1_2 N_34 th_j34 w2_j34 w4_j34 = some res), W p l e { frames := 1, cells := 0, slots := 0, locals := 25 } s m args below meth c H locs 0 0 Q (F0 m 34 ls []) := by
      intro N_34
      induction N_34 with
      | zero => intro th_j34 w2_j34 w4_j34 H locs ls hW hl hf; exact o0 hf
      | succ N_34 ih_34 =>
        intro th_j34 w2_j34 w4_j34 H locs ls hW hl hf
        have hf : s_X9_find_34 n v1_2 (l_X9_find_34 n v1_2 N_34) th_j34 w2_j34 w4_j34 = some res := hf
        unfold s_X9_find_34 at hf
        refine k_iload E hl 3 dX9_find_34 rfl ?_
        refine k_iload_n E hl 1 dX9_find_36 rfl ?_
        refine lv_icmp_ge (tgt := 87) E.hx E.hb dX9_find_37 (by decide) (fun hc => ?_) (fun hc => ?_)
        · have hf := oT hc hf
          refine k_aload_n E hl 0 dX9_find_87 rfl ?_
          refine gf_X9_7 E hW 0 rfl rfl dX9_find_88 ?_
          refine k_aload_n E hl 0 dX9_find_91 rfl ?_
          refine gf_X9_89 E hW 0 rfl rfl dX9_find_92 ?_
          refine k_lload_n E hl 2 dX9_find_95 rfl ?_
          obtain ⟨r_5, hg, hf⟩ := ob hf
          refine k_callSi (As := [.ref (a_th 1), .int (th_j34.1 2), .long w2_j34]) (rest := []) (ws2 := fun u => wModel k a_th th_j34) (c_X9_indexOf n l k (fun j => a_th (1 + j)) 8 (th_j34.2.2.1 8) (th_j34.1 2) w2_j34 r_5 hg) E sl_X9_403 dX9_find_96 rfl [1] hW hA hl rfl rfl ⟨by decide, by decide⟩ ⟨by decide, by decide⟩ (Nat.le_of_ble_eq_true rfl) rfl (fun _ => rfl) (fun _ => rfl) (fun r u H locs hp hW => ?_)
          cases hp
          have hW : WD k A s.heap (wModel k a_th th_j34) H locs := hW
          exact hret _ th_j34 _ _ _ _ _ _ hW (Option.some.inj hf).symm rfl (by decide) (by decide) dX9_find_99
        · have hf := oF hc hf
          refine k_aload_n E hl 0 dX9_find_40 rfl ?_
          refine gf_X9_42 E hW 0 rfl rfl dX9_find_41 ?_
          refine k_iload E hl 3 dX9_find_44 rfl ?_
          obtain ⟨hin, hf⟩ := oI hf
          obtain ⟨x_6, ex_6, hf⟩ := oL hf
          refine k_bald E hW 9 rfl hin dX9_find_46 ?_
          refine k_topi ex_6 ?_
          refine lv_i2l (v := (x_6).toInt64) E.hx E.hb dX9_find_47 rfl ?_
          refine lv_ldc2 E.hx E.hb E.ho (E.w tm_1855 rfl) dX9_find_48 ?_
          refine lv_ldc2 E.hx E.hb E.ho (E.w tm_1856 rfl) dX9_find_51 ?_
          obtain ⟨r_7, hg, hf⟩ := ob hf
          refine k_callSi (As := [.long ((x_6).toInt64), .long (97 : Int64), .long (122 : Int64)]) (rest := []) (ws2 := fun u => wModel k a_th th_j34) (c_X9_isIn n l k ((x_6).toInt64) (97 : Int64) (122 : Int64) r_7 hg) E sl_X9_92 dX9_find_54 rfl [] hW hA hl rfl rfl ⟨by decide, by decide⟩ ⟨by decide, by decide⟩ (Nat.le_of_ble_eq_true rfl) rfl (fun _ => rfl) (fun _ => rfl) (fun r u H locs hp hW => ?_)
          cases hp
          have hW : WD k A s.heap (wModel k a_th th_j34) H locs := hW
          refine lv_if_ne (tgt := 62) E.hx E.hb dX9_find_57 (by decide) (fun hc => ?_) (fun hc => ?_)
          · have hf := oF hc hf
            refine lv_ldc2 E.hx E.hb E.ho (E.w tm_1857 rfl) dX9_find_62 ?_
            refine k_lload_n E hl 2 dX9_find_65 rfl ?_
            refine lv_lmul E.hx E.hb dX9_find_66 ?_
            refine k_aload_n E hl 0 dX9_find_67 rfl ?_
            refine gf_X9_42 E hW 0 rfl rfl dX9_find_68 ?_
            refine k_iload E hl 3 dX9_find_71 rfl ?_
            obtain ⟨hin, hf⟩ := oI hf
            obtain ⟨x_8, ex_8, hf⟩ := oL hf
            refine k_bald E hW 9 rfl hin dX9_find_73 ?_
            refine k_topi ex_8 ?_
            refine lv_i2l (v := (x_8).toInt64) E.hx E.hb dX9_find_74 rfl ?_
            refine lv_ladd E.hx E.hb dX9_find_75 ?_
            refine lv_ldc2 E.hx E.hb E.ho (E.w tm_1858 rfl) dX9_find_76 ?_
            refine lv_lsub E.hx E.hb dX9_find_79 ?_
            obtain ⟨v2_9, ev2_9, hf⟩ := oL hf
            refine k_lstore_n (lv' := [(2, .long v2_9), (0, .ref (a_th 0)), (1, .int v1_2), (4, .int w4_j34)]) E ev2_9 hl dX9_find_80 rfl (by decide) rfl (fun ls hl => ?_)
            obtain ⟨v4_10, ev4_10, hf⟩ := oL hf
            refine k_iinc (lv' := [(4, .int v4_10), (2, .long v2_9), (0, .ref (a_th 0)), (1, .int v1_2)]) E hl 3 dX9_find_81 rfl (ev4_10.trans (congrArg (fun z => w4_j34 + z) ic_1.symm)) (by decide) rfl (fun ls hl => ?_)
            refine lv_goto (tgt := 34) E.hx E.hb dX9_find_84 (by decide) ?_
            exact ih_34 th_j34 v2_9 v4_10 _ _ _ hW (lv_sub hl [2, 3, 1, 0] rfl) hf
          · have hf := oT hc hf
            refine lv_iconst (v := (-1 : Int32)) E.hx E.hb dX9_find_60 ic_m1 ?_
            exact hret _ th_j34 _ _ _ _ _ _ hW (Option.some.inj hf).symm rfl (by decide) (by decide) dX9_find_61
    exact L_34 n th_3 (0 : Int64) (0 : Int32) _ _ _ hW (lv_sub hl [3, 2, 1, 0] rfl) hf
  · have hf := oT hc hf
    refine lv_iconst (v := (-1 : Int32)) E.hx E.hb dX9_find_27 ic_m1 ?_
    exact hret _ th_3 _ _ _ _ _ _ hW (Option.some.inj hf).symm rfl (by decide) (by decide) dX9_find_28
def f_X9_fine_ (n : Nat) (th_0 : OS) : Option (Int32) :=
  if (th_0.1 31) = 0 then (
  some (1 : Int32)) else (
  some (0 : Int32))
set_option maxHeartbeats 4000000 in
set_option maxRecDepth 100000 in
theorem c_X9_fine_ (n : Nat) (l : Launch) (k : KT) (a_th : Nat → Nat) (th_0 : OS) (res : (Int32)) (hf : f_X9_fine_ n th_0 = some res) : CG l k yX9_fine_ cX9_fine_ 1 (some .boolean) 0 0 0 0 [.ref (a_th 0)] (wModel k a_th th_0) (Qi k (fun u : Unit => wModel k a_th th_0) (fun (r : Int32) (u : Unit) => res = r)) := by
  refine CG.ofI (by decide) (Nat.le_of_ble_eq_true rfl) (fun p e s m args below meth c A Q E hnm hW hA hret ls hl => ?_)
  have hl : lv_has ls 1 [(0, .ref (a_th 0))] := hl
  unfold f_X9_fine_ at hf
  refine k_aload_n E hl 0 dX9_fine__0 rfl ?_
  refine gf_X9_383 E hW 0 rfl rfl dX9_fine__1 ?_
  refine lv_if_ne (tgt := 11) E.hx E.hb dX9_fine__4 (by decide) (fun hc => ?_) (fun hc => ?_)
  · have hf := oF hc hf
    refine lv_iconst (v := (0 : Int32)) E.hx E.hb dX9_fine__11 ic_0 ?_
    exact hret _ () _ _ _ _ _ _ hW (Option.some.inj hf).symm (by decide) (by decide) (by decide) dX9_fine__12
  · have hf := oT hc hf
    refine lv_iconst (v := (1 : Int32)) E.hx E.hb dX9_fine__7 ic_1 ?_
    refine lv_goto (tgt := 12) E.hx E.hb dX9_fine__8 (by decide) ?_
    exact hret _ () _ _ _ _ _ _ hW (Option.some.inj hf).symm (by decide) (by decide) (by decide) dX9_fine__12
def f_X9_needs (n : Nat) (th_0 : OS) (v1_0 : Int32) (v2_0 : Int32) : Option (OS) :=
  if (th_0.1 31) = 0 then (
  if v1_0 = 0 then (
  Let (sI th_0 31 v2_0) (fun th_1 : OS =>
  Let (sI th_1 32 (th_1.1 26)) (fun th_2 : OS =>
  some th_2))) else (
  some th_0)) else (
  some th_0)
set_option maxHeartbeats 4000000 in
set_option maxRecDepth 100000 in
theorem c_X9_needs (n : Nat) (l : Launch) (k : KT) (a_th : Nat → Nat) (th_0 : OS) (v1_0 : Int32) (v2_0 : Int32) (res : (OS)) (hf : f_X9_needs n th_0 v1_0 v2_0 = some res) : CG l k yX9_needs cX9_needs 3 none 0 0 0 0 [.ref (a_th 0), .int v1_0, .int v2_0] (wModel k a_th th_0) (Qv k (fun u : OS => wModel k a_th u) (fun u : OS => res = u)) := by
  refine CG.ofV (by decide) (Nat.le_of_ble_eq_true rfl) (fun p e s m args below meth c A Q E hnm hW hA hret ls hl => ?_)
  have hl : lv_has ls 3 [(0, .ref (a_th 0)), (1, .int v1_0), (2, .int v2_0)] := hl
  unfold f_X9_needs at hf
  refine k_aload_n E hl 0 dX9_needs_0 rfl ?_
  refine gf_X9_383 E hW 0 rfl rfl dX9_needs_1 ?_
  refine lv_if_ne (tgt := 11) E.hx E.hb dX9_needs_4 (by decide) (fun hc => ?_) (fun hc => ?_)
  · have hf := oF hc hf
    exact hret th_0 _ _ _ _ _ _ hW (Option.some.inj hf).symm (by decide) (by decide) dX9_needs_11
  · have hf := oT hc hf
    refine k_iload_n E hl 1 dX9_needs_7 rfl ?_
    refine lv_if_eq (tgt := 12) E.hx E.hb dX9_needs_8 (by decide) (fun hc => ?_) (fun hc => ?_)
    · have hf := oT hc hf
      refine k_aload_n E hl 0 dX9_needs_12 rfl ?_
      refine k_iload_n E hl 2 dX9_needs_13 rfl ?_
      obtain ⟨th_1, eth_1, hf⟩ := oL hf
      refine pf_X9_383 (ws2 := wModel k a_th th_1) E hW 0 rfl rfl rfl (Nat.le_of_ble_eq_true rfl) dX9_needs_14 (by rw [eth_1]; rfl) (fun H locs hW => ?_)
      refine k_aload_n E hl 0 dX9_needs_17 rfl ?_
      refine k_aload_n E hl 0 dX9_needs_18 rfl ?_
      refine gf_X9_343 E hW 0 rfl rfl dX9_needs_19 ?_
      obtain ⟨th_2, eth_2, hf⟩ := oL hf
      refine pf_X9_46 (ws2 := wModel k a_th th_2) E hW 0 rfl rfl rfl (Nat.le_of_ble_eq_true rfl) dX9_needs_22 (by rw [eth_2]; rfl) (fun H locs hW => ?_)
      exact hret th_2 _ _ _ _ _ _ hW (Option.some.inj hf).symm (by decide) (by decide) dX9_needs_25
    · have hf := oF hc hf
      exact hret th_0 _ _ _ _ _ _ hW (Option.some.inj hf).symm (by decide) (by decide) dX9_needs_11
def f_X9_isName (n : Nat) (th_0 : OS) : Option (Int32) :=
  if (th_0.1 27) = (1 : Int32) then (
  if (th_0.1 28) = (-1 : Int32) then (
  if (6 : Int32) < ((th_0.1 25) - (th_0.1 26)) then (
  some (0 : Int32)) else (
  some (1 : Int32))) else (
  some (0 : Int32))) else (
  some (0 : Int32))
set_option maxHeartbeats 4000000 in
set_option maxRecDepth 100000 in
theorem c_X9_isName (n : Nat) (l : Launch) (k : KT) (a_th : Nat → Nat) (th_0 : OS) (res : (Int32)) (hf : f_X9_isName n th_0 = some res) : CG l k yX9_isName cX9_isName 1 (some .boolean) 0 0 0 0 [.ref (a_th 0)] (wModel k a_th th_0) (Qi k (fun u : Unit => wModel k a_th th_0) (fun (r : Int32) (u : Unit) => res = r)) := by
  refine CG.ofI (by decide) (Nat.le_of_ble_eq_true rfl) (fun p e s m args below meth c A Q E hnm hW hA hret ls hl => ?_)
  have hl : lv_has ls 1 [(0, .ref (a_th 0))] := hl
  unfold f_X9_isName at hf
  refine k_aload_n E hl 0 dX9_isName_0 rfl ?_
  refine gf_X9_346 E hW 0 rfl rfl dX9_isName_1 ?_
  refine lv_iconst (v := (1 : Int32)) E.hx E.hb dX9_isName_4 ic_1 ?_
  refine lv_icmp_ne (tgt := 34) E.hx E.hb dX9_isName_5 (by decide) (fun hc => ?_) (fun hc => ?_)
  · have hf := oF hc hf
    refine lv_iconst (v := (0 : Int32)) E.hx E.hb dX9_isName_34 ic_0 ?_
    exact hret _ () _ _ _ _ _ _ hW (Option.some.inj hf).symm (by decide) (by decide) (by decide) dX9_isName_35
  · have hf := oT hc hf
    refine k_aload_n E hl 0 dX9_isName_8 rfl ?_
    refine gf_X9_363 E hW 0 rfl rfl dX9_isName_9 ?_
    refine lv_iconst (v := (-1 : Int32)) E.hx E.hb dX9_isName_12 ic_m1 ?_
    refine lv_icmp_ne (tgt := 34) E.hx E.hb dX9_isName_13 (by decide) (fun hc => ?_) (fun hc => ?_)
    · have hf := oF hc hf
      refine lv_iconst (v := (0 : Int32)) E.hx E.hb dX9_isName_34 ic_0 ?_
      exact hret _ () _ _ _ _ _ _ hW (Option.some.inj hf).symm (by decide) (by decide) (by decide) dX9_isName_35
    · have hf := oT hc hf
      refine k_aload_n E hl 0 dX9_isName_16 rfl ?_
      refine gf_X9_340 E hW 0 rfl rfl dX9_isName_17 ?_
      refine k_aload_n E hl 0 dX9_isName_20 rfl ?_
      refine gf_X9_343 E hW 0 rfl rfl dX9_isName_21 ?_
      refine lv_isub E.hx E.hb dX9_isName_24 ?_
      refine lv_bipush (v := (6 : Int32)) E.hx E.hb dX9_isName_25 bp_6 ?_
      refine lv_icmp_gt (tgt := 34) E.hx E.hb dX9_isName_27 (by decide) (fun hc => ?_) (fun hc => ?_)
      · have hf := oT hc hf
        refine lv_iconst (v := (0 : Int32)) E.hx E.hb dX9_isName_34 ic_0 ?_
        exact hret _ () _ _ _ _ _ _ hW (Option.some.inj hf).symm (by decide) (by decide) (by decide) dX9_isName_35
      · have hf := oF hc hf
        refine lv_iconst (v := (1 : Int32)) E.hx E.hb dX9_isName_30 ic_1 ?_
        refine lv_goto (tgt := 35) E.hx E.hb dX9_isName_31 (by decide) ?_
        exact hret _ () _ _ _ _ _ _ hW (Option.some.inj hf).symm (by decide) (by decide) (by decide) dX9_isName_35
def f_X9_isWord (n : Nat) (th_0 : OS) (v1_0 : Int32) : Option (Int32) :=
  bnd (f_X9_fine_ n th_0) (fun (r_1 : Int32) =>
  if r_1 = 0 then (
  some (0 : Int32)) else (
  if (th_0.1 27) = (1 : Int32) then (
  if (th_0.1 28) = v1_0 then (
  some (1 : Int32)) else (
  some (0 : Int32))) else (
  some (0 : Int32))))
set_option maxHeartbeats 4000000 in
set_option maxRecDepth 100000 in
theorem c_X9_isWord (n : Nat) (l : Launch) (k : KT) (a_th : Nat → Nat) (th_0 : OS) (v1_0 : Int32) (res : (Int32)) (hf : f_X9_isWord n th_0 v1_0 = some res) : CG l k yX9_isWord cX9_isWord 2 (some .boolean) 1 0 0 20 [.ref (a_th 0), .int v1_0] (wModel k a_th th_0) (Qi k (fun u : Unit => wModel k a_th th_0) (fun (r : Int32) (u : Unit) => res = r)) := by
  refine CG.ofI (by decide) (Nat.le_of_ble_eq_true rfl) (fun p e s m args below meth c A Q E hnm hW hA hret ls hl => ?_)
  have hl : lv_has ls 2 [(0, .ref (a_th 0)), (1, .int v1_0)] := hl
  unfold f_X9_isWord at hf
  refine k_aload_n E hl 0 dX9_isWord_0 rfl ?_
  obtain ⟨r_1, hg, hf⟩ := ob hf
  refine k_callVi (As := []) (rest := []) (ws2 := fun u => wModel k a_th th_0) (c_X9_fine_ n l k a_th th_0 r_1 hg) E vl_X9_386 dX9_isWord_1 rfl [0, 1, 2, 3, 4, 5, 6, 7, 8, 9, 10, 11, 12] 7 0 hW hA hl rfl rfl rfl rfl ⟨by decide, by decide⟩ ⟨by decide, by decide⟩ (Nat.le_of_ble_eq_true rfl) rfl (fun _ => rfl) (fun _ => rfl) (fun r u H locs hp hW => ?_)
  cases hp
  have hW : WD k A s.heap (wModel k a_th th_0) H locs := hW
  refine lv_if_eq (tgt := 27) E.hx E.hb dX9_isWord_4 (by decide) (fun hc => ?_) (fun hc => ?_)
  · have hf := oT hc hf
    refine lv_iconst (v := (0 : Int32)) E.hx E.hb dX9_isWord_27 ic_0 ?_
    exact hret _ () _ _ _ _ _ _ hW (Option.some.inj hf).symm (by decide) (by decide) (by decide) dX9_isWord_28
  · have hf := oF hc hf
    refine k_aload_n E hl 0 dX9_isWord_7 rfl ?_
    refine gf_X9_346 E hW 0 rfl rfl dX9_isWord_8 ?_
    refine lv_iconst (v := (1 : Int32)) E.hx E.hb dX9_isWord_11 ic_1 ?_
    refine lv_icmp_ne (tgt := 27) E.hx E.hb dX9_isWord_12 (by decide) (fun hc => ?_) (fun hc => ?_)
    · have hf := oF hc hf
      refine lv_iconst (v := (0 : Int32)) E.hx E.hb dX9_isWord_27 ic_0 ?_
      exact hret _ () _ _ _ _ _ _ hW (Option.some.inj hf).symm (by decide) (by decide) (by decide) dX9_isWord_28
    · have hf := oT hc hf
      refine k_aload_n E hl 0 dX9_isWord_15 rfl ?_
      refine gf_X9_363 E hW 0 rfl rfl dX9_isWord_16 ?_
      refine k_iload_n E hl 1 dX9_isWord_19 rfl ?_
      refine lv_icmp_ne (tgt := 27) E.hx E.hb dX9_isWord_20 (by decide) (fun hc => ?_) (fun hc => ?_)
      · have hf := oF hc hf
        refine lv_iconst (v := (0 : Int32)) E.hx E.hb dX9_isWord_27 ic_0 ?_
        exact hret _ () _ _ _ _ _ _ hW (Option.some.inj hf).symm (by decide) (by decide) (by decide) dX9_isWord_28
      · have hf := oT hc hf
        refine lv_iconst (v := (1 : Int32)) E.hx E.hb dX9_isWord_23 ic_1 ?_
        refine lv_goto (tgt := 28) E.hx E.hb dX9_isWord_24 (by decide) ?_
        exact hret _ () _ _ _ _ _ _ hW (Option.some.inj hf).symm (by decide) (by decide) (by decide) dX9_isWord_28
def f_X9_says (n : Nat) (th_0 : OS) (v1_0 : Int32) : Option (OS) :=
  gI 1000 (th_0.1 40) (Let (sA th_0 39 (upd (th_0.2.1 39) (th_0.1 40).toNatClampNeg (vp_nar .byte ((v1_0).toInt8.toInt32)))) (fun th_1 : OS =>
  Let (sI th_1 40 ((th_1.1 40) + (1 : Int32))) (fun th_2 : OS =>
  some th_2)))
set_option maxHeartbeats 4000000 in
set_option maxRecDepth 100000 in
theorem c_X9_says (n : Nat) (l : Launch) (k : KT) (a_th : Nat → Nat) (th_0 : OS) (v1_0 : Int32) (res : (OS)) (hf : f_X9_says n th_0 v1_0 = some res) : CG l k yX9_says cX9_says 2 none 0 0 0 0 [.ref (a_th 0), .int v1_0] (wModel k a_th th_0) (Qv k (fun u : OS => wModel k a_th u) (fun u : OS => res = u)) := by
  refine CG.ofV (by decide) (Nat.le_of_ble_eq_true rfl) (fun p e s m args below meth c A Q E hnm hW hA hret ls hl => ?_)
  have hl : lv_has ls 2 [(0, .ref (a_th 0)), (1, .int v1_0)] := hl
  unfold f_X9_says at hf
  refine k_aload_n E hl 0 dX9_says_0 rfl ?_
  refine gf_X9_55 E hW 0 rfl rfl dX9_says_1 ?_
  refine k_aload_n E hl 0 dX9_says_4 rfl ?_
  refine gf_X9_438 E hW 0 rfl rfl dX9_says_5 ?_
  refine k_iload_n E hl 1 dX9_says_8 rfl ?_
  refine lv_i2b (v := (v1_0).toInt8.toInt32) E.hx E.hb dX9_says_9 rfl ?_
  obtain ⟨hin, hf⟩ := oI hf
  obtain ⟨th_1, eth_1, hf⟩ := oL hf
  refine k_bast (ws2 := wModel k a_th th_1) E hW 12 rfl hin dX9_says_10 (by rw [eth_1]; rfl) (fun H locs hW => ?_)
  refine k_aload_n E hl 0 dX9_says_11 rfl ?_
  refine k_aload_n E hl 0 dX9_says_12 rfl ?_
  refine gf_X9_438 E hW 0 rfl rfl dX9_says_13 ?_
  refine lv_iconst (v := (1 : Int32)) E.hx E.hb dX9_says_16 ic_1 ?_
  refine lv_iadd E.hx E.hb dX9_says_17 ?_
  obtain ⟨th_2, eth_2, hf⟩ := oL hf
  refine pf_X9_438 (ws2 := wModel k a_th th_2) E hW 0 rfl rfl rfl (Nat.le_of_ble_eq_true rfl) dX9_says_18 (by rw [eth_2]; rfl) (fun H locs hW => ?_)
  exact hret th_2 _ _ _ _ _ _ hW (Option.some.inj hf).symm (by decide) (by decide) dX9_says_21
