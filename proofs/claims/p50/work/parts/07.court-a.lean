theorem tm_155 : (Jvm.Cond.fieldLink "MemoryCourt$Court" (9 : Nat) "MemoryCourt$Court" "time" "I") ∈ lw_tbl := List.mem_of_getElem? (i := 155) (by decide +kernel)
theorem tm_157 : (Jvm.Cond.fieldLink "MemoryCourt$Court" (15 : Nat) "MemoryCourt$Court" "order" "I") ∈ lw_tbl := List.mem_of_getElem? (i := 157) (by decide +kernel)
theorem tm_160 : (Jvm.Cond.fieldLink "MemoryCourt$Court" (18 : Nat) "MemoryCourt$Court" "free" "I") ∈ lw_tbl := List.mem_of_getElem? (i := 160) (by decide +kernel)
theorem tm_163 : (Jvm.Cond.fieldLink "MemoryCourt$Court" (21 : Nat) "MemoryCourt$Court" "loanCount" "I") ∈ lw_tbl := List.mem_of_getElem? (i := 163) (by decide +kernel)
theorem tm_166 : (Jvm.Cond.fieldLink "MemoryCourt$Court" (24 : Nat) "MemoryCourt$Court" "claimCount" "I") ∈ lw_tbl := List.mem_of_getElem? (i := 166) (by decide +kernel)
theorem tm_169 : (Jvm.Cond.fieldLink "MemoryCourt$Court" (27 : Nat) "MemoryCourt$Court" "fineCount" "I") ∈ lw_tbl := List.mem_of_getElem? (i := 169) (by decide +kernel)
theorem tm_171 : (Jvm.Cond.fieldLink "MemoryCourt$Court" (30 : Nat) "MemoryCourt$Court" "hearings" "I") ∈ lw_tbl := List.mem_of_getElem? (i := 171) (by decide +kernel)
theorem tm_173 : (Jvm.Cond.fieldLink "MemoryCourt$Court" (33 : Nat) "MemoryCourt$Court" "latestHearing" "I") ∈ lw_tbl := List.mem_of_getElem? (i := 173) (by decide +kernel)
theorem tm_174 : (Jvm.Cond.fieldLink "MemoryCourt$Court" (36 : Nat) "MemoryCourt$Court" "takenBack" "I") ∈ lw_tbl := List.mem_of_getElem? (i := 174) (by decide +kernel)
theorem tm_178 : (Jvm.Cond.fieldLink "MemoryCourt$Court" (52 : Nat) "MemoryCourt$Court" "processes" "LMemoryCourt$Table;") ∈ lw_tbl := List.mem_of_getElem? (i := 178) (by decide +kernel)
theorem tm_307 : (Jvm.Cond.methodLink "MemoryCourt$Court" (68 : Nat) ({ cls := "MemoryCourt$Table", name := "clear", desc := "()V" } : Jvm.MethodName)) ∈ lw_tbl := List.mem_of_getElem? (i := 307) (by decide +kernel)
theorem tm_308 : (Jvm.Cond.instanceMethod ({ cls := "MemoryCourt$Table", name := "clear", desc := "()V" } : Jvm.MethodName)) ∈ lw_tbl := List.mem_of_getElem? (i := 308) (by decide +kernel)
theorem tm_309 : (Jvm.Cond.selects "MemoryCourt$Table" ({ cls := "MemoryCourt$Table", name := "clear", desc := "()V" } : Jvm.MethodName) ({ cls := "MemoryCourt$Table", name := "clear", desc := "()V" } : Jvm.MethodName)) ∈ lw_tbl := List.mem_of_getElem? (i := 309) (by decide +kernel)
theorem tm_310 : (Jvm.Cond.code ({ cls := "MemoryCourt$Table", name := "clear", desc := "()V" } : Jvm.MethodName) prog_8_method_5_code (1 : Nat) (Option.none : Option Jvm.ClassFile.FieldType)) ∈ lw_tbl := List.mem_of_getElem? (i := 310) (by decide +kernel)
theorem tm_176 : (Jvm.Cond.fieldLink "MemoryCourt$Court" (39 : Nat) "MemoryCourt$Court" "stalledTicks" "[J") ∈ lw_tbl := List.mem_of_getElem? (i := 176) (by decide +kernel)
theorem tm_314 : (Jvm.Cond.methodLink "MemoryCourt$Court" (71 : Nat) ({ cls := "java/util/Arrays", name := "fill", desc := "([JJ)V" } : Jvm.MethodName)) ∈ lw_tbl := List.mem_of_getElem? (i := 314) (by decide +kernel)
theorem tm_315 : (Jvm.Cond.static ({ cls := "java/util/Arrays", name := "fill", desc := "([JJ)V" } : Jvm.MethodName)) ∈ lw_tbl := List.mem_of_getElem? (i := 315) (by decide +kernel)
theorem tm_316 : (Jvm.Cond.code ({ cls := "java/util/Arrays", name := "fill", desc := "([JJ)V" } : Jvm.MethodName) prog_35_method_101_code (5 : Nat) (Option.none : Option Jvm.ClassFile.FieldType)) ∈ lw_tbl := List.mem_of_getElem? (i := 316) (by decide +kernel)
theorem tm_177 : (Jvm.Cond.fieldLink "MemoryCourt$Court" (43 : Nat) "MemoryCourt$Court" "owners" "[I") ∈ lw_tbl := List.mem_of_getElem? (i := 177) (by decide +kernel)
theorem tm_529 : (Jvm.Cond.methodLink "MemoryCourt$Court" (77 : Nat) ({ cls := "java/lang/System", name := "arraycopy", desc := "(Ljava/lang/Object;ILjava/lang/Object;II)V" } : Jvm.MethodName)) ∈ lw_tbl := List.mem_of_getElem? (i := 529) (by decide +kernel)
theorem tm_532 : (Jvm.Cond.methodLink "MemoryCourt$Court" (83 : Nat) ({ cls := "MemoryCourt$Table", name := "copyFrom", desc := "(LMemoryCourt$Table;)V" } : Jvm.MethodName)) ∈ lw_tbl := List.mem_of_getElem? (i := 532) (by decide +kernel)
theorem tm_180 : (Jvm.Cond.fieldLink "MemoryCourt$Court" (56 : Nat) "MemoryCourt$Court" "loans" "LMemoryCourt$Table;") ∈ lw_tbl := List.mem_of_getElem? (i := 180) (by decide +kernel)
theorem tm_182 : (Jvm.Cond.fieldLink "MemoryCourt$Court" (59 : Nat) "MemoryCourt$Court" "claims" "LMemoryCourt$Table;") ∈ lw_tbl := List.mem_of_getElem? (i := 182) (by decide +kernel)
theorem tm_184 : (Jvm.Cond.fieldLink "MemoryCourt$Court" (62 : Nat) "MemoryCourt$Court" "fines" "LMemoryCourt$Table;") ∈ lw_tbl := List.mem_of_getElem? (i := 184) (by decide +kernel)
theorem tm_560 : (Jvm.Cond.methodLink "MemoryCourt$Court" (93 : Nat) ({ cls := "MemoryCourt$Table", name := "set", desc := "(III)V" } : Jvm.MethodName)) ∈ lw_tbl := List.mem_of_getElem? (i := 560) (by decide +kernel)
theorem tm_548 : (Jvm.Cond.methodLink "MemoryCourt$Court" (97 : Nat) ({ cls := "MemoryCourt$Table", name := "add", desc := "(III)V" } : Jvm.MethodName)) ∈ lw_tbl := List.mem_of_getElem? (i := 548) (by decide +kernel)
theorem tm_549 : (Jvm.Cond.instanceMethod ({ cls := "MemoryCourt$Table", name := "add", desc := "(III)V" } : Jvm.MethodName)) ∈ lw_tbl := List.mem_of_getElem? (i := 549) (by decide +kernel)
theorem tm_550 : (Jvm.Cond.selects "MemoryCourt$Table" ({ cls := "MemoryCourt$Table", name := "add", desc := "(III)V" } : Jvm.MethodName) ({ cls := "MemoryCourt$Table", name := "add", desc := "(III)V" } : Jvm.MethodName)) ∈ lw_tbl := List.mem_of_getElem? (i := 550) (by decide +kernel)
theorem tm_551 : (Jvm.Cond.code ({ cls := "MemoryCourt$Table", name := "add", desc := "(III)V" } : Jvm.MethodName) prog_8_method_4_code (5 : Nat) (Option.none : Option Jvm.ClassFile.FieldType)) ∈ lw_tbl := List.mem_of_getElem? (i := 551) (by decide +kernel)
theorem tm_357 : (Jvm.Cond.methodLink "MemoryCourt$Court" (100 : Nat) ({ cls := "MemoryCourt$Table", name := "get", desc := "(II)I" } : Jvm.MethodName)) ∈ lw_tbl := List.mem_of_getElem? (i := 357) (by decide +kernel)
theorem tm_353 : (Jvm.Cond.methodLink "MemoryCourt$Court" (103 : Nat) ({ cls := "MemoryCourt$Court", name := "isOpen", desc := "(I)Z" } : Jvm.MethodName)) ∈ lw_tbl := List.mem_of_getElem? (i := 353) (by decide +kernel)
theorem tm_354 : (Jvm.Cond.instanceMethod ({ cls := "MemoryCourt$Court", name := "isOpen", desc := "(I)Z" } : Jvm.MethodName)) ∈ lw_tbl := List.mem_of_getElem? (i := 354) (by decide +kernel)
theorem tm_355 : (Jvm.Cond.selects "MemoryCourt$Court" ({ cls := "MemoryCourt$Court", name := "isOpen", desc := "(I)Z" } : Jvm.MethodName) ({ cls := "MemoryCourt$Court", name := "isOpen", desc := "(I)Z" } : Jvm.MethodName)) ∈ lw_tbl := List.mem_of_getElem? (i := 355) (by decide +kernel)
theorem tm_38 : (Jvm.Cond.initialized "MemoryCourt$Court") ∈ lw_tbl := List.mem_of_getElem? (i := 38) (by decide +kernel)
theorem tm_356 : (Jvm.Cond.code ({ cls := "MemoryCourt$Court", name := "isOpen", desc := "(I)Z" } : Jvm.MethodName) prog_4_method_10_code (2 : Nat) (Option.some Jvm.ClassFile.FieldType.boolean)) ∈ lw_tbl := List.mem_of_getElem? (i := 356) (by decide +kernel)
theorem tm_361 : (Jvm.Cond.methodLink "MemoryCourt$Court" (113 : Nat) ({ cls := "MemoryCourt$Court", name := "isLoanOf", desc := "(II)Z" } : Jvm.MethodName)) ∈ lw_tbl := List.mem_of_getElem? (i := 361) (by decide +kernel)
theorem tm_363 : (Jvm.Cond.instanceMethod ({ cls := "MemoryCourt$Court", name := "isLoanOf", desc := "(II)Z" } : Jvm.MethodName)) ∈ lw_tbl := List.mem_of_getElem? (i := 363) (by decide +kernel)
theorem tms_0 : (Jvm.Cond.selects "MemoryCourt$Court" ({ cls := "MemoryCourt$Court", name := "isLoanOf", desc := "(II)Z" } : Jvm.MethodName) ({ cls := "MemoryCourt$Court", name := "isLoanOf", desc := "(II)Z" } : Jvm.MethodName)) ∈ lw_tbl := List.mem_of_getElem? (i := 0) (by decide +kernel)
theorem tm_364 : (Jvm.Cond.code ({ cls := "MemoryCourt$Court", name := "isLoanOf", desc := "(II)Z" } : Jvm.MethodName) prog_4_method_13_code (3 : Nat) (Option.some Jvm.ClassFile.FieldType.boolean)) ∈ lw_tbl := List.mem_of_getElem? (i := 364) (by decide +kernel)
theorem tm_369 : (Jvm.Cond.methodLink "MemoryCourt$Court" (107 : Nat) ({ cls := "MemoryCourt$Court", name := "isBroken", desc := "(I)Z" } : Jvm.MethodName)) ∈ lw_tbl := List.mem_of_getElem? (i := 369) (by decide +kernel)
theorem tm_370 : (Jvm.Cond.instanceMethod ({ cls := "MemoryCourt$Court", name := "isBroken", desc := "(I)Z" } : Jvm.MethodName)) ∈ lw_tbl := List.mem_of_getElem? (i := 370) (by decide +kernel)
theorem tm_371 : (Jvm.Cond.selects "MemoryCourt$Court" ({ cls := "MemoryCourt$Court", name := "isBroken", desc := "(I)Z" } : Jvm.MethodName) ({ cls := "MemoryCourt$Court", name := "isBroken", desc := "(I)Z" } : Jvm.MethodName)) ∈ lw_tbl := List.mem_of_getElem? (i := 371) (by decide +kernel)
theorem tm_372 : (Jvm.Cond.code ({ cls := "MemoryCourt$Court", name := "isBroken", desc := "(I)Z" } : Jvm.MethodName) prog_4_method_11_code (2 : Nat) (Option.some Jvm.ClassFile.FieldType.boolean)) ∈ lw_tbl := List.mem_of_getElem? (i := 372) (by decide +kernel)
theorem on_64 : Int32.ofNat 64 = (64 : Int32) := by decide
theorem bp_m2 : (Int8.ofInt (-2)).toInt32 = (-2 : Int32) := by decide
theorem on_251 : Int32.ofNat 251 = (251 : Int32) := by decide
theorem ic_2 : Int32.ofInt (2) = (2 : Int32) := by decide
theorem ic_3 : Int32.ofInt (3) = (3 : Int32) := by decide
theorem ic_4 : Int32.ofInt (4) = (4 : Int32) := by decide
theorem ic_5 : Int32.ofInt (5) = (5 : Int32) := by decide
theorem bp_7 : (Int8.ofInt (7)).toInt32 = (7 : Int32) := by decide
theorem pf_X2_9 {p : Program} {l : Launch} {e : Env} {R : Room} {s : State} {m : MethodId} {args : Array Value} {below : List Frame} {meth : Method} {c : Code} {H : Heap} {locs : List Loc} {cells slots : Nat} {Q : State → Prop} {cc : ByteArray} {pc nL : Nat} {ls : Array Slot} {rest : List Value} {k : KT} {A : Nat → Prop} {ws ws2 : va_W} {H0 : Heap} {a : Nat} (E : E0 p s m c cc nL RX2 k A) (hW : WD k A H0 ws H locs) (q0 : Nat) {fs : List Value} (he : ws[q0]? = some (a, .inr (3, fs))) {v : Value} (hn : narrow (tyX2 0) v = v) (hfit : fits (tyX2 0) v = true) (hl : 0 < fs.length) (hdg : decode cc pc = .ok (.putfield 9, 3)) (hws : ws.set q0 (a, .inr (3, fs.set 0 v)) = ws2) (q : ∀ (H1 : Heap) (locs1 : List Loc), WD k A H0 ws2 H1 locs1 → W p l e R s m args below meth c H1 locs1 cells slots Q (F0 m (pc + 3) ls rest)) : W p l e R s m args below meth c H locs cells slots Q (F0 m pc ls (v :: .ref a :: rest)) := by
  subst hws
  exact va_put (C := RX2) (T := TX2) (N := 16) (ci := 3) (ty := tyX2 0) E.hx E.hb (Ts := wsX20) (fun w hw => E.w (inX2 w hw) (tbl_laysX2 w hw)) (fun _ h => h) tyX2 tyX2_ok nmX2 E.ho E.hK hW.1 hW.2.1 hW.2.2 q0 he rfl 0 (by decide) (E.w tm_155 rfl) (fun _ h => h) rfl (tyX2_ok 0 (by decide)) hn hfit hl hdg (fun H1 locs1 h1 h2 h3 => q H1 locs1 ⟨h1, h2, h3⟩)
theorem pf_X2_15 {p : Program} {l : Launch} {e : Env} {R : Room} {s : State} {m : MethodId} {args : Array Value} {below : List Frame} {meth : Method} {c : Code} {H : Heap} {locs : List Loc} {cells slots : Nat} {Q : State → Prop} {cc : ByteArray} {pc nL : Nat} {ls : Array Slot} {rest : List Value} {k : KT} {A : Nat → Prop} {ws ws2 : va_W} {H0 : Heap} {a : Nat} (E : E0 p s m c cc nL RX2 k A) (hW : WD k A H0 ws H locs) (q0 : Nat) {fs : List Value} (he : ws[q0]? = some (a, .inr (3, fs))) {v : Value} (hn : narrow (tyX2 1) v = v) (hfit : fits (tyX2 1) v = true) (hl : 1 < fs.length) (hdg : decode cc pc = .ok (.putfield 15, 3)) (hws : ws.set q0 (a, .inr (3, fs.set 1 v)) = ws2) (q : ∀ (H1 : Heap) (locs1 : List Loc), WD k A H0 ws2 H1 locs1 → W p l e R s m args below meth c H1 locs1 cells slots Q (F0 m (pc + 3) ls rest)) : W p l e R s m args below meth c H locs cells slots Q (F0 m pc ls (v :: .ref a :: rest)) := by
  subst hws
  exact va_put (C := RX2) (T := TX2) (N := 16) (ci := 3) (ty := tyX2 1) E.hx E.hb (Ts := wsX20) (fun w hw => E.w (inX2 w hw) (tbl_laysX2 w hw)) (fun _ h => h) tyX2 tyX2_ok nmX2 E.ho E.hK hW.1 hW.2.1 hW.2.2 q0 he rfl 1 (by decide) (E.w tm_157 rfl) (fun _ h => h) rfl (tyX2_ok 1 (by decide)) hn hfit hl hdg (fun H1 locs1 h1 h2 h3 => q H1 locs1 ⟨h1, h2, h3⟩)
theorem pf_X2_18 {p : Program} {l : Launch} {e : Env} {R : Room} {s : State} {m : MethodId} {args : Array Value} {below : List Frame} {meth : Method} {c : Code} {H : Heap} {locs : List Loc} {cells slots : Nat} {Q : State → Prop} {cc : ByteArray} {pc nL : Nat} {ls : Array Slot} {rest : List Value} {k : KT} {A : Nat → Prop} {ws ws2 : va_W} {H0 : Heap} {a : Nat} (E : E0 p s m c cc nL RX2 k A) (hW : WD k A H0 ws H locs) (q0 : Nat) {fs : List Value} (he : ws[q0]? = some (a, .inr (3, fs))) {v : Value} (hn : narrow (tyX2 2) v = v) (hfit : fits (tyX2 2) v = true) (hl : 2 < fs.length) (hdg : decode cc pc = .ok (.putfield 18, 3)) (hws : ws.set q0 (a, .inr (3, fs.set 2 v)) = ws2) (q : ∀ (H1 : Heap) (locs1 : List Loc), WD k A H0 ws2 H1 locs1 → W p l e R s m args below meth c H1 locs1 cells slots Q (F0 m (pc + 3) ls rest)) : W p l e R s m args below meth c H locs cells slots Q (F0 m pc ls (v :: .ref a :: rest)) := by
  subst hws
  exact va_put (C := RX2) (T := TX2) (N := 16) (ci := 3) (ty := tyX2 2) E.hx E.hb (Ts := wsX20) (fun w hw => E.w (inX2 w hw) (tbl_laysX2 w hw)) (fun _ h => h) tyX2 tyX2_ok nmX2 E.ho E.hK hW.1 hW.2.1 hW.2.2 q0 he rfl 2 (by decide) (E.w tm_160 rfl) (fun _ h => h) rfl (tyX2_ok 2 (by decide)) hn hfit hl hdg (fun H1 locs1 h1 h2 h3 => q H1 locs1 ⟨h1, h2, h3⟩)
theorem pf_X2_21 {p : Program} {l : Launch} {e : Env} {R : Room} {s : State} {m : MethodId} {args : Array Value} {below : List Frame} {meth : Method} {c : Code} {H : Heap} {locs : List Loc} {cells slots : Nat} {Q : State → Prop} {cc : ByteArray} {pc nL : Nat} {ls : Array Slot} {rest : List Value} {k : KT} {A : Nat → Prop} {ws ws2 : va_W} {H0 : Heap} {a : Nat} (E : E0 p s m c cc nL RX2 k A) (hW : WD k A H0 ws H locs) (q0 : Nat) {fs : List Value} (he : ws[q0]? = some (a, .inr (3, fs))) {v : Value} (hn : narrow (tyX2 3) v = v) (hfit : fits (tyX2 3) v = true) (hl : 3 < fs.length) (hdg : decode cc pc = .ok (.putfield 21, 3)) (hws : ws.set q0 (a, .inr (3, fs.set 3 v)) = ws2) (q : ∀ (H1 : Heap) (locs1 : List Loc), WD k A H0 ws2 H1 locs1 → W p l e R s m args below meth c H1 locs1 cells slots Q (F0 m (pc + 3) ls rest)) : W p l e R s m args below meth c H locs cells slots Q (F0 m pc ls (v :: .ref a :: rest)) := by
  subst hws
  exact va_put (C := RX2) (T := TX2) (N := 16) (ci := 3) (ty := tyX2 3) E.hx E.hb (Ts := wsX20) (fun w hw => E.w (inX2 w hw) (tbl_laysX2 w hw)) (fun _ h => h) tyX2 tyX2_ok nmX2 E.ho E.hK hW.1 hW.2.1 hW.2.2 q0 he rfl 3 (by decide) (E.w tm_163 rfl) (fun _ h => h) rfl (tyX2_ok 3 (by decide)) hn hfit hl hdg (fun H1 locs1 h1 h2 h3 => q H1 locs1 ⟨h1, h2, h3⟩)
theorem pf_X2_24 {p : Program} {l : Launch} {e : Env} {R : Room} {s : State} {m : MethodId} {args : Array Value} {below : List Frame} {meth : Method} {c : Code} {H : Heap} {locs : List Loc} {cells slots : Nat} {Q : State → Prop} {cc : ByteArray} {pc nL : Nat} {ls : Array Slot} {rest : List Value} {k : KT} {A : Nat → Prop} {ws ws2 : va_W} {H0 : Heap} {a : Nat} (E : E0 p s m c cc nL RX2 k A) (hW : WD k A H0 ws H locs) (q0 : Nat) {fs : List Value} (he : ws[q0]? = some (a, .inr (3, fs))) {v : Value} (hn : narrow (tyX2 4) v = v) (hfit : fits (tyX2 4) v = true) (hl : 4 < fs.length) (hdg : decode cc pc = .ok (.putfield 24, 3)) (hws : ws.set q0 (a, .inr (3, fs.set 4 v)) = ws2) (q : ∀ (H1 : Heap) (locs1 : List Loc), WD k A H0 ws2 H1 locs1 → W p l e R s m args below meth c H1 locs1 cells slots Q (F0 m (pc + 3) ls rest)) : W p l e R s m args below meth c H locs cells slots Q (F0 m pc ls (v :: .ref a :: rest)) := by
  subst hws
  exact va_put (C := RX2) (T := TX2) (N := 16) (ci := 3) (ty := tyX2 4) E.hx E.hb (Ts := wsX20) (fun w hw => E.w (inX2 w hw) (tbl_laysX2 w hw)) (fun _ h => h) tyX2 tyX2_ok nmX2 E.ho E.hK hW.1 hW.2.1 hW.2.2 q0 he rfl 4 (by decide) (E.w tm_166 rfl) (fun _ h => h) rfl (tyX2_ok 4 (by decide)) hn hfit hl hdg (fun H1 locs1 h1 h2 h3 => q H1 locs1 ⟨h1, h2, h3⟩)
theorem pf_X2_27 {p : Program} {l : Launch} {e : Env} {R : Room} {s : State} {m : MethodId} {args : Array Value} {below : List Frame} {meth : Method} {c : Code} {H : Heap} {locs : List Loc} {cells slots : Nat} {Q : State → Prop} {cc : ByteArray} {pc nL : Nat} {ls : Array Slot} {rest : List Value} {k : KT} {A : Nat → Prop} {ws ws2 : va_W} {H0 : Heap} {a : Nat} (E : E0 p s m c cc nL RX2 k A) (hW : WD k A H0 ws H locs) (q0 : Nat) {fs : List Value} (he : ws[q0]? = some (a, .inr (3, fs))) {v : Value} (hn : narrow (tyX2 5) v = v) (hfit : fits (tyX2 5) v = true) (hl : 5 < fs.length) (hdg : decode cc pc = .ok (.putfield 27, 3)) (hws : ws.set q0 (a, .inr (3, fs.set 5 v)) = ws2) (q : ∀ (H1 : Heap) (locs1 : List Loc), WD k A H0 ws2 H1 locs1 → W p l e R s m args below meth c H1 locs1 cells slots Q (F0 m (pc + 3) ls rest)) : W p l e R s m args below meth c H locs cells slots Q (F0 m pc ls (v :: .ref a :: rest)) := by
  subst hws
  exact va_put (C := RX2) (T := TX2) (N := 16) (ci := 3) (ty := tyX2 5) E.hx E.hb (Ts := wsX20) (fun w hw => E.w (inX2 w hw) (tbl_laysX2 w hw)) (fun _ h => h) tyX2 tyX2_ok nmX2 E.ho E.hK hW.1 hW.2.1 hW.2.2 q0 he rfl 5 (by decide) (E.w tm_169 rfl) (fun _ h => h) rfl (tyX2_ok 5 (by decide)) hn hfit hl hdg (fun H1 locs1 h1 h2 h3 => q H1 locs1 ⟨h1, h2, h3⟩)
theorem pf_X2_30 {p : Program} {l : Launch} {e : Env} {R : Room} {s : State} {m : MethodId} {args : Array Value} {below : List Frame} {meth : Method} {c : Code} {H : Heap} {locs : List Loc} {cells slots : Nat} {Q : State → Prop} {cc : ByteArray} {pc nL : Nat} {ls : Array Slot} {rest : List Value} {k : KT} {A : Nat → Prop} {ws ws2 : va_W} {H0 : Heap} {a : Nat} (E : E0 p s m c cc nL RX2 k A) (hW : WD k A H0 ws H locs) (q0 : Nat) {fs : List Value} (he : ws[q0]? = some (a, .inr (3, fs))) {v : Value} (hn : narrow (tyX2 6) v = v) (hfit : fits (tyX2 6) v = true) (hl : 6 < fs.length) (hdg : decode cc pc = .ok (.putfield 30, 3)) (hws : ws.set q0 (a, .inr (3, fs.set 6 v)) = ws2) (q : ∀ (H1 : Heap) (locs1 : List Loc), WD k A H0 ws2 H1 locs1 → W p l e R s m args below meth c H1 locs1 cells slots Q (F0 m (pc + 3) ls rest)) : W p l e R s m args below meth c H locs cells slots Q (F0 m pc ls (v :: .ref a :: rest)) := by
  subst hws
  exact va_put (C := RX2) (T := TX2) (N := 16) (ci := 3) (ty := tyX2 6) E.hx E.hb (Ts := wsX20) (fun w hw => E.w (inX2 w hw) (tbl_laysX2 w hw)) (fun _ h => h) tyX2 tyX2_ok nmX2 E.ho E.hK hW.1 hW.2.1 hW.2.2 q0 he rfl 6 (by decide) (E.w tm_171 rfl) (fun _ h => h) rfl (tyX2_ok 6 (by decide)) hn hfit hl hdg (fun H1 locs1 h1 h2 h3 => q H1 locs1 ⟨h1, h2, h3⟩)
theorem pf_X2_33 {p : Program} {l : Launch} {e : Env} {R : Room} {s : State} {m : MethodId} {args : Array Value} {below : List Frame} {meth : Method} {c : Code} {H : Heap} {locs : List Loc} {cells slots : Nat} {Q : State → Prop} {cc : ByteArray} {pc nL : Nat} {ls : Array Slot} {rest : List Value} {k : KT} {A : Nat → Prop} {ws ws2 : va_W} {H0 : Heap} {a : Nat} (E : E0 p s m c cc nL RX2 k A) (hW : WD k A H0 ws H locs) (q0 : Nat) {fs : List Value} (he : ws[q0]? = some (a, .inr (3, fs))) {v : Value} (hn : narrow (tyX2 7) v = v) (hfit : fits (tyX2 7) v = true) (hl : 7 < fs.length) (hdg : decode cc pc = .ok (.putfield 33, 3)) (hws : ws.set q0 (a, .inr (3, fs.set 7 v)) = ws2) (q : ∀ (H1 : Heap) (locs1 : List Loc), WD k A H0 ws2 H1 locs1 → W p l e R s m args below meth c H1 locs1 cells slots Q (F0 m (pc + 3) ls rest)) : W p l e R s m args below meth c H locs cells slots Q (F0 m pc ls (v :: .ref a :: rest)) := by
  subst hws
  exact va_put (C := RX2) (T := TX2) (N := 16) (ci := 3) (ty := tyX2 7) E.hx E.hb (Ts := wsX20) (fun w hw => E.w (inX2 w hw) (tbl_laysX2 w hw)) (fun _ h => h) tyX2 tyX2_ok nmX2 E.ho E.hK hW.1 hW.2.1 hW.2.2 q0 he rfl 7 (by decide) (E.w tm_173 rfl) (fun _ h => h) rfl (tyX2_ok 7 (by decide)) hn hfit hl hdg (fun H1 locs1 h1 h2 h3 => q H1 locs1 ⟨h1, h2, h3⟩)
theorem pf_X2_36 {p : Program} {l : Launch} {e : Env} {R : Room} {s : State} {m : MethodId} {args : Array Value} {below : List Frame} {meth : Method} {c : Code} {H : Heap} {locs : List Loc} {cells slots : Nat} {Q : State → Prop} {cc : ByteArray} {pc nL : Nat} {ls : Array Slot} {rest : List Value} {k : KT} {A : Nat → Prop} {ws ws2 : va_W} {H0 : Heap} {a : Nat} (E : E0 p s m c cc nL RX2 k A) (hW : WD k A H0 ws H locs) (q0 : Nat) {fs : List Value} (he : ws[q0]? = some (a, .inr (3, fs))) {v : Value} (hn : narrow (tyX2 8) v = v) (hfit : fits (tyX2 8) v = true) (hl : 8 < fs.length) (hdg : decode cc pc = .ok (.putfield 36, 3)) (hws : ws.set q0 (a, .inr (3, fs.set 8 v)) = ws2) (q : ∀ (H1 : Heap) (locs1 : List Loc), WD k A H0 ws2 H1 locs1 → W p l e R s m args below meth c H1 locs1 cells slots Q (F0 m (pc + 3) ls rest)) : W p l e R s m args below meth c H locs cells slots Q (F0 m pc ls (v :: .ref a :: rest)) := by
  subst hws
  exact va_put (C := RX2) (T := TX2) (N := 16) (ci := 3) (ty := tyX2 8) E.hx E.hb (Ts := wsX20) (fun w hw => E.w (inX2 w hw) (tbl_laysX2 w hw)) (fun _ h => h) tyX2 tyX2_ok nmX2 E.ho E.hK hW.1 hW.2.1 hW.2.2 q0 he rfl 8 (by decide) (E.w tm_174 rfl) (fun _ h => h) rfl (tyX2_ok 8 (by decide)) hn hfit hl hdg (fun H1 locs1 h1 h2 h3 => q H1 locs1 ⟨h1, h2, h3⟩)
theorem gf_X2_52 {p : Program} {l : Launch} {e : Env} {R : Room} {s : State} {m : MethodId} {args : Array Value} {below : List Frame} {meth : Method} {c : Code} {H : Heap} {locs : List Loc} {cells slots : Nat} {Q : State → Prop} {cc : ByteArray} {pc nL : Nat} {ls : Array Slot} {rest : List Value} {k : KT} {A : Nat → Prop} {ws : va_W} {H0 : Heap} {a : Nat} (E : E0 p s m c cc nL RX2 k A) (hW : WD k A H0 ws H locs) (q0 : Nat) {fs : List Value} (he : ws[q0]? = some (a, .inr (3, fs))) {v : Value} (hv : fs[11]? = some v) (hdg : decode cc pc = .ok (.getfield 52, 3)) (q : W p l e R s m args below meth c H locs cells slots Q (F0 m (pc + 3) ls (v :: rest))) : W p l e R s m args below meth c H locs cells slots Q (F0 m pc ls (.ref a :: rest)) := va_get (C := RX2) (T := TX2) (N := 16) (ci := 3) E.hx E.hb (Ts := wsX20) (fun w hw => E.w (inX2 w hw) (tbl_laysX2 w hw)) (fun _ h => h) E.ho E.hK hW.1 q0 he rfl 11 (by decide) (E.w tm_178 rfl) (fun _ h => h) hv hdg q
theorem gf_X2_39 {p : Program} {l : Launch} {e : Env} {R : Room} {s : State} {m : MethodId} {args : Array Value} {below : List Frame} {meth : Method} {c : Code} {H : Heap} {locs : List Loc} {cells slots : Nat} {Q : State → Prop} {cc : ByteArray} {pc nL : Nat} {ls : Array Slot} {rest : List Value} {k : KT} {A : Nat → Prop} {ws : va_W} {H0 : Heap} {a : Nat} (E : E0 p s m c cc nL RX2 k A) (hW : WD k A H0 ws H locs) (q0 : Nat) {fs : List Value} (he : ws[q0]? = some (a, .inr (3, fs))) {v : Value} (hv : fs[9]? = some v) (hdg : decode cc pc = .ok (.getfield 39, 3)) (q : W p l e R s m args below meth c H locs cells slots Q (F0 m (pc + 3) ls (v :: rest))) : W p l e R s m args below meth c H locs cells slots Q (F0 m pc ls (.ref a :: rest)) := va_get (C := RX2) (T := TX2) (N := 16) (ci := 3) E.hx E.hb (Ts := wsX20) (fun w hw => E.w (inX2 w hw) (tbl_laysX2 w hw)) (fun _ h => h) E.ho E.hK hW.1 q0 he rfl 9 (by decide) (E.w tm_176 rfl) (fun _ h => h) hv hdg q
theorem gf_X2_43 {p : Program} {l : Launch} {e : Env} {R : Room} {s : State} {m : MethodId} {args : Array Value} {below : List Frame} {meth : Method} {c : Code} {H : Heap} {locs : List Loc} {cells slots : Nat} {Q : State → Prop} {cc : ByteArray} {pc nL : Nat} {ls : Array Slot} {rest : List Value} {k : KT} {A : Nat → Prop} {ws : va_W} {H0 : Heap} {a : Nat} (E : E0 p s m c cc nL RX2 k A) (hW : WD k A H0 ws H locs) (q0 : Nat) {fs : List Value} (he : ws[q0]? = some (a, .inr (3, fs))) {v : Value} (hv : fs[10]? = some v) (hdg : decode cc pc = .ok (.getfield 43, 3)) (q : W p l e R s m args below meth c H locs cells slots Q (F0 m (pc + 3) ls (v :: rest))) : W p l e R s m args below meth c H locs cells slots Q (F0 m pc ls (.ref a :: rest)) := va_get (C := RX2) (T := TX2) (N := 16) (ci := 3) E.hx E.hb (Ts := wsX20) (fun w hw => E.w (inX2 w hw) (tbl_laysX2 w hw)) (fun _ h => h) E.ho E.hK hW.1 q0 he rfl 10 (by decide) (E.w tm_177 rfl) (fun _ h => h) hv hdg q
theorem gf_X2_9 {p : Program} {l : Launch} {e : Env} {R : Room} {s : State} {m : MethodId} {args : Array Value} {below : List Frame} {meth : Method} {c : Code} {H : Heap} {locs : List Loc} {cells slots : Nat} {Q : State → Prop} {cc : ByteArray} {pc nL : Nat} {ls : Array Slot} {rest : List Value} {k : KT} {A : Nat → Prop} {ws : va_W} {H0 : Heap} {a : Nat} (E : E0 p s m c cc nL RX2 k A) (hW : WD k A H0 ws H locs) (q0 : Nat) {fs : List Value} (he : ws[q0]? = some (a, .inr (3, fs))) {v : Value} (hv : fs[0]? = some v) (hdg : decode cc pc = .ok (.getfield 9, 3)) (q : W p l e R s m args below meth c H locs cells slots Q (F0 m (pc + 3) ls (v :: rest))) : W p l e R s m args below meth c H locs cells slots Q (F0 m pc ls (.ref a :: rest)) := va_get (C := RX2) (T := TX2) (N := 16) (ci := 3) E.hx E.hb (Ts := wsX20) (fun w hw => E.w (inX2 w hw) (tbl_laysX2 w hw)) (fun _ h => h) E.ho E.hK hW.1 q0 he rfl 0 (by decide) (E.w tm_155 rfl) (fun _ h => h) hv hdg q
theorem gf_X2_15 {p : Program} {l : Launch} {e : Env} {R : Room} {s : State} {m : MethodId} {args : Array Value} {below : List Frame} {meth : Method} {c : Code} {H : Heap} {locs : List Loc} {cells slots : Nat} {Q : State → Prop} {cc : ByteArray} {pc nL : Nat} {ls : Array Slot} {rest : List Value} {k : KT} {A : Nat → Prop} {ws : va_W} {H0 : Heap} {a : Nat} (E : E0 p s m c cc nL RX2 k A) (hW : WD k A H0 ws H locs) (q0 : Nat) {fs : List Value} (he : ws[q0]? = some (a, .inr (3, fs))) {v : Value} (hv : fs[1]? = some v) (hdg : decode cc pc = .ok (.getfield 15, 3)) (q : W p l e R s m args below meth c H locs cells slots Q (F0 m (pc + 3) ls (v :: rest))) : W p l e R s m args below meth c H locs cells slots Q (F0 m pc ls (.ref a :: rest)) := va_get (C := RX2) (T := TX2) (N := 16) (ci := 3) E.hx E.hb (Ts := wsX20) (fun w hw => E.w (inX2 w hw) (tbl_laysX2 w hw)) (fun _ h => h) E.ho E.hK hW.1 q0 he rfl 1 (by decide) (E.w tm_157 rfl) (fun _ h => h) hv hdg q
theorem gf_X2_18 {p : Program} {l : Launch} {e : Env} {R : Room} {s : State} {m : MethodId} {args : Array Value} {below : List Frame} {meth : Method} {c : Code} {H : Heap} {locs : List Loc} {cells slots : Nat} {Q : State → Prop} {cc : ByteArray} {pc nL : Nat} {ls : Array Slot} {rest : List Value} {k : KT} {A : Nat → Prop} {ws : va_W} {H0 : Heap} {a : Nat} (E : E0 p s m c cc nL RX2 k A) (hW : WD k A H0 ws H locs) (q0 : Nat) {fs : List Value} (he : ws[q0]? = some (a, .inr (3, fs))) {v : Value} (hv : fs[2]? = some v) (hdg : decode cc pc = .ok (.getfield 18, 3)) (q : W p l e R s m args below meth c H locs cells slots Q (F0 m (pc + 3) ls (v :: rest))) : W p l e R s m args below meth c H locs cells slots Q (F0 m pc ls (.ref a :: rest)) := va_get (C := RX2) (T := TX2) (N := 16) (ci := 3) E.hx E.hb (Ts := wsX20) (fun w hw => E.w (inX2 w hw) (tbl_laysX2 w hw)) (fun _ h => h) E.ho E.hK hW.1 q0 he rfl 2 (by decide) (E.w tm_160 rfl) (fun _ h => h) hv hdg q
theorem gf_X2_21 {p : Program} {l : Launch} {e : Env} {R : Room} {s : State} {m : MethodId} {args : Array Value} {below : List Frame} {meth : Method} {c : Code} {H : Heap} {locs : List Loc} {cells slots : Nat} {Q : State → Prop} {cc : ByteArray} {pc nL : Nat} {ls : Array Slot} {rest : List Value} {k : KT} {A : Nat → Prop} {ws : va_W} {H0 : Heap} {a : Nat} (E : E0 p s m c cc nL RX2 k A) (hW : WD k A H0 ws H locs) (q0 : Nat) {fs : List Value} (he : ws[q0]? = some (a, .inr (3, fs))) {v : Value} (hv : fs[3]? = some v) (hdg : decode cc pc = .ok (.getfield 21, 3)) (q : W p l e R s m args below meth c H locs cells slots Q (F0 m (pc + 3) ls (v :: rest))) : W p l e R s m args below meth c H locs cells slots Q (F0 m pc ls (.ref a :: rest)) := va_get (C := RX2) (T := TX2) (N := 16) (ci := 3) E.hx E.hb (Ts := wsX20) (fun w hw => E.w (inX2 w hw) (tbl_laysX2 w hw)) (fun _ h => h) E.ho E.hK hW.1 q0 he rfl 3 (by decide) (E.w tm_163 rfl) (fun _ h => h) hv hdg q
theorem gf_X2_24 {p : Program} {l : Launch} {e : Env} {R : Room} {s : State} {m : MethodId} {args : Array Value} {below : List Frame} {meth : Method} {c : Code} {H : Heap} {locs : List Loc} {cells slots : Nat} {Q : State → Prop} {cc : ByteArray} {pc nL : Nat} {ls : Array Slot} {rest : List Value} {k : KT} {A : Nat → Prop} {ws : va_W} {H0 : Heap} {a : Nat} (E : E0 p s m c cc nL RX2 k A) (hW : WD k A H0 ws H locs) (q0 : Nat) {fs : List Value} (he : ws[q0]? = some (a, .inr (3, fs))) {v : Value} (hv : fs[4]? = some v) (hdg : decode cc pc = .ok (.getfield 24, 3)) (q : W p l e R s m args below meth c H locs cells slots Q (F0 m (pc + 3) ls (v :: rest))) : W p l e R s m args below meth c H locs cells slots Q (F0 m pc ls (.ref a :: rest)) := va_get (C := RX2) (T := TX2) (N := 16) (ci := 3) E.hx E.hb (Ts := wsX20) (fun w hw => E.w (inX2 w hw) (tbl_laysX2 w hw)) (fun _ h => h) E.ho E.hK hW.1 q0 he rfl 4 (by decide) (E.w tm_166 rfl) (fun _ h => h) hv hdg q
theorem gf_X2_27 {p : Program} {l : Launch} {e : Env} {R : Room} {s : State} {m : MethodId} {args : Array Value} {below : List Frame} {meth : Method} {c : Code} {H : Heap} {locs : List Loc} {cells slots : Nat} {Q : State → Prop} {cc : ByteArray} {pc nL : Nat} {ls : Array Slot} {rest : List Value} {k : KT} {A : Nat → Prop} {ws : va_W} {H0 : Heap} {a : Nat} (E : E0 p s m c cc nL RX2 k A) (hW : WD k A H0 ws H locs) (q0 : Nat) {fs : List Value} (he : ws[q0]? = some (a, .inr (3, fs))) {v : Value} (hv : fs[5]? = some v) (hdg : decode cc pc = .ok (.getfield 27, 3)) (q : W p l e R s m args below meth c H locs cells slots Q (F0 m (pc + 3) ls (v :: rest))) : W p l e R s m args below meth c H locs cells slots Q (F0 m pc ls (.ref a :: rest)) := va_get (C := RX2) (T := TX2) (N := 16) (ci := 3) E.hx E.hb (Ts := wsX20) (fun w hw => E.w (inX2 w hw) (tbl_laysX2 w hw)) (fun _ h => h) E.ho E.hK hW.1 q0 he rfl 5 (by decide) (E.w tm_169 rfl) (fun _ h => h) hv hdg q
theorem gf_X2_30 {p : Program} {l : Launch} {e : Env} {R : Room} {s : State} {m : MethodId} {args : Array Value} {below : List Frame} {meth : Method} {c : Code} {H : Heap} {locs : List Loc} {cells slots : Nat} {Q : State → Prop} {cc : ByteArray} {pc nL : Nat} {ls : Array Slot} {rest : List Value} {k : KT} {A : Nat → Prop} {ws : va_W} {H0 : Heap} {a : Nat} (E : E0 p s m c cc nL RX2 k A) (hW : WD k A H0 ws H locs) (q0 : Nat) {fs : List Value} (he : ws[q0]? = some (a, .inr (3, fs))) {v : Value} (hv : fs[6]? = some v) (hdg : decode cc pc = .ok (.getfield 30, 3)) (q : W p l e R s m args below meth c H locs cells slots Q (F0 m (pc + 3) ls (v :: rest))) : W p l e R s m args below meth c H locs cells slots Q (F0 m pc ls (.ref a :: rest)) := va_get (C := RX2) (T := TX2) (N := 16) (ci := 3) E.hx E.hb (Ts := wsX20) (fun w hw => E.w (inX2 w hw) (tbl_laysX2 w hw)) (fun _ h => h) E.ho E.hK hW.1 q0 he rfl 6 (by decide) (E.w tm_171 rfl) (fun _ h => h) hv hdg q
theorem gf_X2_33 {p : Program} {l : Launch} {e : Env} {R : Room} {s : State} {m : MethodId} {args : Array Value} {below : List Frame} {meth : Method} {c : Code} {H : Heap} {locs : List Loc} {cells slots : Nat} {Q : State → Prop} {cc : ByteArray} {pc nL : Nat} {ls : Array Slot} {rest : List Value} {k : KT} {A : Nat → Prop} {ws : va_W} {H0 : Heap} {a : Nat} (E : E0 p s m c cc nL RX2 k A) (hW : WD k A H0 ws H locs) (q0 : Nat) {fs : List Value} (he : ws[q0]? = some (a, .inr (3, fs))) {v : Value} (hv : fs[7]? = some v) (hdg : decode cc pc = .ok (.getfield 33, 3)) (q : W p l e R s m args below meth c H locs cells slots Q (F0 m (pc + 3) ls (v :: rest))) : W p l e R s m args below meth c H locs cells slots Q (F0 m pc ls (.ref a :: rest)) := va_get (C := RX2) (T := TX2) (N := 16) (ci := 3) E.hx E.hb (Ts := wsX20) (fun w hw => E.w (inX2 w hw) (tbl_laysX2 w hw)) (fun _ h => h) E.ho E.hK hW.1 q0 he rfl 7 (by decide) (E.w tm_173 rfl) (fun _ h => h) hv hdg q
theorem gf_X2_36 {p : Program} {l : Launch} {e : Env} {R : Room} {s : State} {m : MethodId} {args : Array Value} {below : List Frame} {meth : Method} {c : Code} {H : Heap} {locs : List Loc} {cells slots : Nat} {Q : State → Prop} {cc : ByteArray} {pc nL : Nat} {ls : Array Slot} {rest : List Value} {k : KT} {A : Nat → Prop} {ws : va_W} {H0 : Heap} {a : Nat} (E : E0 p s m c cc nL RX2 k A) (hW : WD k A H0 ws H locs) (q0 : Nat) {fs : List Value} (he : ws[q0]? = some (a, .inr (3, fs))) {v : Value} (hv : fs[8]? = some v) (hdg : decode cc pc = .ok (.getfield 36, 3)) (q : W p l e R s m args below meth c H locs cells slots Q (F0 m (pc + 3) ls (v :: rest))) : W p l e R s m args below meth c H locs cells slots Q (F0 m pc ls (.ref a :: rest)) := va_get (C := RX2) (T := TX2) (N := 16) (ci := 3) E.hx E.hb (Ts := wsX20) (fun w hw => E.w (inX2 w hw) (tbl_laysX2 w hw)) (fun _ h => h) E.ho E.hK hW.1 q0 he rfl 8 (by decide) (E.w tm_174 rfl) (fun _ h => h) hv hdg q
theorem gf_X2_56 {p : Program} {l : Launch} {e : Env} {R : Room} {s : State} {m : MethodId} {args : Array Value} {below : List Frame} {meth : Method} {c : Code} {H : Heap} {locs : List Loc} {cells slots : Nat} {Q : State → Prop} {cc : ByteArray} {pc nL : Nat} {ls : Array Slot} {rest : List Value} {k : KT} {A : Nat → Prop} {ws : va_W} {H0 : Heap} {a : Nat} (E : E0 p s m c cc nL RX2 k A) (hW : WD k A H0 ws H locs) (q0 : Nat) {fs : List Value} (he : ws[q0]? = some (a, .inr (3, fs))) {v : Value} (hv : fs[12]? = some v) (hdg : decode cc pc = .ok (.getfield 56, 3)) (q : W p l e R s m args below meth c H locs cells slots Q (F0 m (pc + 3) ls (v :: rest))) : W p l e R s m args below meth c H locs cells slots Q (F0 m pc ls (.ref a :: rest)) := va_get (C := RX2) (T := TX2) (N := 16) (ci := 3) E.hx E.hb (Ts := wsX20) (fun w hw => E.w (inX2 w hw) (tbl_laysX2 w hw)) (fun _ h => h) E.ho E.hK hW.1 q0 he rfl 12 (by decide) (E.w tm_180 rfl) (fun _ h => h) hv hdg q
theorem gf_X2_59 {p : Program} {l : Launch} {e : Env} {R : Room} {s : State} {m : MethodId} {args : Array Value} {below : List Frame} {meth : Method} {c : Code} {H : Heap} {locs : List Loc} {cells slots : Nat} {Q : State → Prop} {cc : ByteArray} {pc nL : Nat} {ls : Array Slot} {rest : List Value} {k : KT} {A : Nat → Prop} {ws : va_W} {H0 : Heap} {a : Nat} (E : E0 p s m c cc nL RX2 k A) (hW : WD k A H0 ws H locs) (q0 : Nat) {fs : List Value} (he : ws[q0]? = some (a, .inr (3, fs))) {v : Value} (hv : fs[13]? = some v) (hdg : decode cc pc = .ok (.getfield 59, 3)) (q : W p l e R s m args below meth c H locs cells slots Q (F0 m (pc + 3) ls (v :: rest))) : W p l e R s m args below meth c H locs cells slots Q (F0 m pc ls (.ref a :: rest)) := va_get (C := RX2) (T := TX2) (N := 16) (ci := 3) E.hx E.hb (Ts := wsX20) (fun w hw => E.w (inX2 w hw) (tbl_laysX2 w hw)) (fun _ h => h) E.ho E.hK hW.1 q0 he rfl 13 (by decide) (E.w tm_182 rfl) (fun _ h => h) hv hdg q
theorem gf_X2_62 {p : Program} {l : Launch} {e : Env} {R : Room} {s : State} {m : MethodId} {args : Array Value} {below : List Frame} {meth : Method} {c : Code} {H : Heap} {locs : List Loc} {cells slots : Nat} {Q : State → Prop} {cc : ByteArray} {pc nL : Nat} {ls : Array Slot} {rest : List Value} {k : KT} {A : Nat → Prop} {ws : va_W} {H0 : Heap} {a : Nat} (E : E0 p s m c cc nL RX2 k A) (hW : WD k A H0 ws H locs) (q0 : Nat) {fs : List Value} (he : ws[q0]? = some (a, .inr (3, fs))) {v : Value} (hv : fs[14]? = some v) (hdg : decode cc pc = .ok (.getfield 62, 3)) (q : W p l e R s m args below meth c H locs cells slots Q (F0 m (pc + 3) ls (v :: rest))) : W p l e R s m args below meth c H locs cells slots Q (F0 m pc ls (.ref a :: rest)) := va_get (C := RX2) (T := TX2) (N := 16) (ci := 3) E.hx E.hb (Ts := wsX20) (fun w hw => E.w (inX2 w hw) (tbl_laysX2 w hw)) (fun _ h => h) E.ho E.hK hW.1 q0 he rfl 14 (by decide) (E.w tm_184 rfl) (fun _ h => h) hv hdg q
theorem vl_X2_68 : VL RX2 68 RX6 yX6_clear cX6_clear 1 none 0 := ⟨⟨tm_307, tm_308, tm_309, tm_37, tm_310⟩, by decide +kernel⟩
theorem sl_X2_71 : SL RX2 71 yJ7_fill_d0a16 cJ7_fill_d0a16 5 none 2 := ⟨⟨tm_314, tm_315, tm_43, tm_316⟩, by decide +kernel⟩
theorem vl_X2_83 : VL RX2 83 RX6 yX6_copyFrom cX6_copyFrom 2 none 1 := ⟨⟨tm_532, tm_533, tm_534, tm_37, tm_535⟩, by decide +kernel⟩
theorem vl_X2_93 : VL RX2 93 RX6 yX6_set cX6_set 5 none 3 := ⟨⟨tm_560, tm_561, tm_562, tm_37, tm_563⟩, by decide +kernel⟩
theorem vl_X2_97 : VL RX2 97 RX6 yX6_add cX6_add 5 none 3 := ⟨⟨tm_548, tm_549, tm_550, tm_37, tm_551⟩, by decide +kernel⟩
theorem vl_X2_100 : VL RX2 100 RX6 yX6_get cX6_get 4 (some .int) 2 := ⟨⟨tm_357, tm_358, tm_359, tm_37, tm_360⟩, by decide +kernel⟩
theorem vl_X2_103 : VL RX2 103 RX2 yX2_isOpen cX2_isOpen 2 (some .boolean) 1 := ⟨⟨tm_353, tm_354, tm_355, tm_38, tm_356⟩, by decide +kernel⟩
theorem vl_X2_113 : VL RX2 113 RX2 yX2_isLoanOf cX2_isLoanOf 3 (some .boolean) 2 := ⟨⟨tm_361, tm_363, tms_0, tm_38, tm_364⟩, by decide +kernel⟩
theorem vl_X2_107 : VL RX2 107 RX2 yX2_isBroken cX2_isBroken 2 (some .boolean) 1 := ⟨⟨tm_369, tm_370, tm_371, tm_38, tm_372⟩, by decide +kernel⟩
theorem dX2_begin_0 : decode cX2_begin 0 = .ok (.aload_n 0, 1) := by decide +kernel
theorem dX2_begin_1 : decode cX2_begin 1 = .ok (.iconst 0, 1) := by decide +kernel
theorem dX2_begin_2 : decode cX2_begin 2 = .ok (.putfield 9, 3) := by decide +kernel
theorem dX2_begin_5 : decode cX2_begin 5 = .ok (.aload_n 0, 1) := by decide +kernel
theorem dX2_begin_6 : decode cX2_begin 6 = .ok (.iconst 0, 1) := by decide +kernel
theorem dX2_begin_7 : decode cX2_begin 7 = .ok (.putfield 15, 3) := by decide +kernel
theorem dX2_begin_10 : decode cX2_begin 10 = .ok (.aload_n 0, 1) := by decide +kernel
theorem dX2_begin_11 : decode cX2_begin 11 = .ok (.iload_n 1, 1) := by decide +kernel
theorem dX2_begin_12 : decode cX2_begin 12 = .ok (.putfield 18, 3) := by decide +kernel
theorem dX2_begin_15 : decode cX2_begin 15 = .ok (.aload_n 0, 1) := by decide +kernel
theorem dX2_begin_16 : decode cX2_begin 16 = .ok (.iconst 0, 1) := by decide +kernel
theorem dX2_begin_17 : decode cX2_begin 17 = .ok (.putfield 21, 3) := by decide +kernel
theorem dX2_begin_20 : decode cX2_begin 20 = .ok (.aload_n 0, 1) := by decide +kernel
theorem dX2_begin_21 : decode cX2_begin 21 = .ok (.iconst 0, 1) := by decide +kernel
theorem dX2_begin_22 : decode cX2_begin 22 = .ok (.putfield 24, 3) := by decide +kernel
theorem dX2_begin_25 : decode cX2_begin 25 = .ok (.aload_n 0, 1) := by decide +kernel
theorem dX2_begin_26 : decode cX2_begin 26 = .ok (.iconst 0, 1) := by decide +kernel
theorem dX2_begin_27 : decode cX2_begin 27 = .ok (.putfield 27, 3) := by decide +kernel
theorem dX2_begin_30 : decode cX2_begin 30 = .ok (.aload_n 0, 1) := by decide +kernel
theorem dX2_begin_31 : decode cX2_begin 31 = .ok (.iconst 0, 1) := by decide +kernel
theorem dX2_begin_32 : decode cX2_begin 32 = .ok (.putfield 30, 3) := by decide +kernel
theorem dX2_begin_35 : decode cX2_begin 35 = .ok (.aload_n 0, 1) := by decide +kernel
theorem dX2_begin_36 : decode cX2_begin 36 = .ok (.iconst 0, 1) := by decide +kernel
theorem dX2_begin_37 : decode cX2_begin 37 = .ok (.putfield 33, 3) := by decide +kernel
theorem dX2_begin_40 : decode cX2_begin 40 = .ok (.aload_n 0, 1) := by decide +kernel
theorem dX2_begin_41 : decode cX2_begin 41 = .ok (.iconst 0, 1) := by decide +kernel
theorem dX2_begin_42 : decode cX2_begin 42 = .ok (.putfield 36, 3) := by decide +kernel
theorem dX2_begin_45 : decode cX2_begin 45 = .ok (.aload_n 0, 1) := by decide +kernel
theorem dX2_begin_46 : decode cX2_begin 46 = .ok (.getfield 52, 3) := by decide +kernel
theorem dX2_begin_49 : decode cX2_begin 49 = .ok (.invokevirtual 68, 3) := by decide +kernel
theorem dX2_begin_52 : decode cX2_begin 52 = .ok (.aload_n 0, 1) := by decide +kernel
theorem dX2_begin_53 : decode cX2_begin 53 = .ok (.getfield 39, 3) := by decide +kernel
theorem dX2_begin_56 : decode cX2_begin 56 = .ok (.lconst 0, 1) := by decide +kernel
theorem dX2_begin_57 : decode cX2_begin 57 = .ok (.invokestatic 71, 3) := by decide +kernel
theorem dX2_begin_60 : decode cX2_begin 60 = .ok (.iconst 0, 1) := by decide +kernel
theorem dX2_begin_61 : decode cX2_begin 61 = .ok (.istore_n 2, 1) := by decide +kernel
theorem dX2_begin_62 : decode cX2_begin 62 = .ok (.iload_n 2, 1) := by decide +kernel
theorem dX2_begin_63 : decode cX2_begin 63 = .ok (.aload_n 0, 1) := by decide +kernel
theorem dX2_begin_64 : decode cX2_begin 64 = .ok (.getfield 43, 3) := by decide +kernel
theorem dX2_begin_67 : decode cX2_begin 67 = .ok (.arraylength, 1) := by decide +kernel
theorem dX2_begin_68 : decode cX2_begin 68 = .ok (.if_icmp .ge 26, 3) := by decide +kernel
theorem dX2_begin_71 : decode cX2_begin 71 = .ok (.aload_n 0, 1) := by decide +kernel
theorem dX2_begin_72 : decode cX2_begin 72 = .ok (.getfield 43, 3) := by decide +kernel
theorem dX2_begin_75 : decode cX2_begin 75 = .ok (.iload_n 2, 1) := by decide +kernel
theorem dX2_begin_76 : decode cX2_begin 76 = .ok (.iload_n 2, 1) := by decide +kernel
theorem dX2_begin_77 : decode cX2_begin 77 = .ok (.iload_n 1, 1) := by decide +kernel
theorem dX2_begin_78 : decode cX2_begin 78 = .ok (.if_icmp .ge 7, 3) := by decide +kernel
theorem dX2_begin_81 : decode cX2_begin 81 = .ok (.iconst (-1), 1) := by decide +kernel
theorem dX2_begin_82 : decode cX2_begin 82 = .ok (.goto 5, 3) := by decide +kernel
theorem dX2_begin_85 : decode cX2_begin 85 = .ok (.bipush (-2), 2) := by decide +kernel
theorem dX2_begin_87 : decode cX2_begin 87 = .ok (.iastore, 1) := by decide +kernel
theorem dX2_begin_88 : decode cX2_begin 88 = .ok (.iinc 2 1, 3) := by decide +kernel
theorem dX2_begin_91 : decode cX2_begin 91 = .ok (.goto (-29), 3) := by decide +kernel
theorem dX2_begin_94 : decode cX2_begin 94 = .ok (.return_, 1) := by decide +kernel
theorem dX2_copyFrom_0 : decode cX2_copyFrom 0 = .ok (.aload_n 0, 1) := by decide +kernel
theorem dX2_copyFrom_1 : decode cX2_copyFrom 1 = .ok (.aload_n 1, 1) := by decide +kernel
theorem dX2_copyFrom_2 : decode cX2_copyFrom 2 = .ok (.getfield 9, 3) := by decide +kernel
theorem dX2_copyFrom_5 : decode cX2_copyFrom 5 = .ok (.putfield 9, 3) := by decide +kernel
theorem dX2_copyFrom_8 : decode cX2_copyFrom 8 = .ok (.aload_n 0, 1) := by decide +kernel
theorem dX2_copyFrom_9 : decode cX2_copyFrom 9 = .ok (.aload_n 1, 1) := by decide +kernel
theorem dX2_copyFrom_10 : decode cX2_copyFrom 10 = .ok (.getfield 15, 3) := by decide +kernel
theorem dX2_copyFrom_13 : decode cX2_copyFrom 13 = .ok (.putfield 15, 3) := by decide +kernel
theorem dX2_copyFrom_16 : decode cX2_copyFrom 16 = .ok (.aload_n 0, 1) := by decide +kernel
theorem dX2_copyFrom_17 : decode cX2_copyFrom 17 = .ok (.aload_n 1, 1) := by decide +kernel
theorem dX2_copyFrom_18 : decode cX2_copyFrom 18 = .ok (.getfield 18, 3) := by decide +kernel
theorem dX2_copyFrom_21 : decode cX2_copyFrom 21 = .ok (.putfield 18, 3) := by decide +kernel
theorem dX2_copyFrom_24 : decode cX2_copyFrom 24 = .ok (.aload_n 0, 1) := by decide +kernel
theorem dX2_copyFrom_25 : decode cX2_copyFrom 25 = .ok (.aload_n 1, 1) := by decide +kernel
theorem dX2_copyFrom_26 : decode cX2_copyFrom 26 = .ok (.getfield 21, 3) := by decide +kernel
theorem dX2_copyFrom_29 : decode cX2_copyFrom 29 = .ok (.putfield 21, 3) := by decide +kernel
theorem dX2_copyFrom_32 : decode cX2_copyFrom 32 = .ok (.aload_n 0, 1) := by decide +kernel
theorem dX2_copyFrom_33 : decode cX2_copyFrom 33 = .ok (.aload_n 1, 1) := by decide +kernel
theorem dX2_copyFrom_34 : decode cX2_copyFrom 34 = .ok (.getfield 24, 3) := by decide +kernel
theorem dX2_copyFrom_37 : decode cX2_copyFrom 37 = .ok (.putfield 24, 3) := by decide +kernel
theorem dX2_copyFrom_40 : decode cX2_copyFrom 40 = .ok (.aload_n 0, 1) := by decide +kernel
theorem dX2_copyFrom_41 : decode cX2_copyFrom 41 = .ok (.aload_n 1, 1) := by decide +kernel
theorem dX2_copyFrom_42 : decode cX2_copyFrom 42 = .ok (.getfield 27, 3) := by decide +kernel
theorem dX2_copyFrom_45 : decode cX2_copyFrom 45 = .ok (.putfield 27, 3) := by decide +kernel
theorem dX2_copyFrom_48 : decode cX2_copyFrom 48 = .ok (.aload_n 0, 1) := by decide +kernel
theorem dX2_copyFrom_49 : decode cX2_copyFrom 49 = .ok (.aload_n 1, 1) := by decide +kernel
theorem dX2_copyFrom_50 : decode cX2_copyFrom 50 = .ok (.getfield 30, 3) := by decide +kernel
theorem dX2_copyFrom_53 : decode cX2_copyFrom 53 = .ok (.putfield 30, 3) := by decide +kernel
theorem dX2_copyFrom_56 : decode cX2_copyFrom 56 = .ok (.aload_n 0, 1) := by decide +kernel
theorem dX2_copyFrom_57 : decode cX2_copyFrom 57 = .ok (.aload_n 1, 1) := by decide +kernel
theorem dX2_copyFrom_58 : decode cX2_copyFrom 58 = .ok (.getfield 33, 3) := by decide +kernel
theorem dX2_copyFrom_61 : decode cX2_copyFrom 61 = .ok (.putfield 33, 3) := by decide +kernel
theorem dX2_copyFrom_64 : decode cX2_copyFrom 64 = .ok (.aload_n 0, 1) := by decide +kernel
theorem dX2_copyFrom_65 : decode cX2_copyFrom 65 = .ok (.aload_n 1, 1) := by decide +kernel
theorem dX2_copyFrom_66 : decode cX2_copyFrom 66 = .ok (.getfield 36, 3) := by decide +kernel
theorem dX2_copyFrom_69 : decode cX2_copyFrom 69 = .ok (.putfield 36, 3) := by decide +kernel
theorem dX2_copyFrom_72 : decode cX2_copyFrom 72 = .ok (.aload_n 1, 1) := by decide +kernel
theorem dX2_copyFrom_73 : decode cX2_copyFrom 73 = .ok (.getfield 43, 3) := by decide +kernel
theorem dX2_copyFrom_76 : decode cX2_copyFrom 76 = .ok (.iconst 0, 1) := by decide +kernel
theorem dX2_copyFrom_77 : decode cX2_copyFrom 77 = .ok (.aload_n 0, 1) := by decide +kernel
theorem dX2_copyFrom_78 : decode cX2_copyFrom 78 = .ok (.getfield 43, 3) := by decide +kernel
theorem dX2_copyFrom_81 : decode cX2_copyFrom 81 = .ok (.iconst 0, 1) := by decide +kernel
theorem dX2_copyFrom_82 : decode cX2_copyFrom 82 = .ok (.aload_n 0, 1) := by decide +kernel
theorem dX2_copyFrom_83 : decode cX2_copyFrom 83 = .ok (.getfield 43, 3) := by decide +kernel
theorem dX2_copyFrom_86 : decode cX2_copyFrom 86 = .ok (.arraylength, 1) := by decide +kernel
theorem dX2_copyFrom_87 : decode cX2_copyFrom 87 = .ok (.invokestatic 77, 3) := by decide +kernel
theorem dX2_copyFrom_90 : decode cX2_copyFrom 90 = .ok (.aload_n 1, 1) := by decide +kernel
theorem dX2_copyFrom_91 : decode cX2_copyFrom 91 = .ok (.getfield 39, 3) := by decide +kernel
theorem dX2_copyFrom_94 : decode cX2_copyFrom 94 = .ok (.iconst 0, 1) := by decide +kernel
theorem dX2_copyFrom_95 : decode cX2_copyFrom 95 = .ok (.aload_n 0, 1) := by decide +kernel
theorem dX2_copyFrom_96 : decode cX2_copyFrom 96 = .ok (.getfield 39, 3) := by decide +kernel
theorem dX2_copyFrom_99 : decode cX2_copyFrom 99 = .ok (.iconst 0, 1) := by decide +kernel
theorem dX2_copyFrom_100 : decode cX2_copyFrom 100 = .ok (.aload_n 0, 1) := by decide +kernel
theorem dX2_copyFrom_101 : decode cX2_copyFrom 101 = .ok (.getfield 39, 3) := by decide +kernel
theorem dX2_copyFrom_104 : decode cX2_copyFrom 104 = .ok (.arraylength, 1) := by decide +kernel
theorem dX2_copyFrom_105 : decode cX2_copyFrom 105 = .ok (.invokestatic 77, 3) := by decide +kernel
theorem dX2_copyFrom_108 : decode cX2_copyFrom 108 = .ok (.aload_n 0, 1) := by decide +kernel
theorem dX2_copyFrom_109 : decode cX2_copyFrom 109 = .ok (.getfield 52, 3) := by decide +kernel
theorem dX2_copyFrom_112 : decode cX2_copyFrom 112 = .ok (.aload_n 1, 1) := by decide +kernel
theorem dX2_copyFrom_113 : decode cX2_copyFrom 113 = .ok (.getfield 52, 3) := by decide +kernel
theorem dX2_copyFrom_116 : decode cX2_copyFrom 116 = .ok (.invokevirtual 83, 3) := by decide +kernel
theorem dX2_copyFrom_119 : decode cX2_copyFrom 119 = .ok (.aload_n 0, 1) := by decide +kernel
theorem dX2_copyFrom_120 : decode cX2_copyFrom 120 = .ok (.getfield 56, 3) := by decide +kernel
theorem dX2_copyFrom_123 : decode cX2_copyFrom 123 = .ok (.aload_n 1, 1) := by decide +kernel
theorem dX2_copyFrom_124 : decode cX2_copyFrom 124 = .ok (.getfield 56, 3) := by decide +kernel
theorem dX2_copyFrom_127 : decode cX2_copyFrom 127 = .ok (.invokevirtual 83, 3) := by decide +kernel
theorem dX2_copyFrom_130 : decode cX2_copyFrom 130 = .ok (.aload_n 0, 1) := by decide +kernel
theorem dX2_copyFrom_131 : decode cX2_copyFrom 131 = .ok (.getfield 59, 3) := by decide +kernel
theorem dX2_copyFrom_134 : decode cX2_copyFrom 134 = .ok (.aload_n 1, 1) := by decide +kernel
theorem dX2_copyFrom_135 : decode cX2_copyFrom 135 = .ok (.getfield 59, 3) := by decide +kernel
theorem dX2_copyFrom_138 : decode cX2_copyFrom 138 = .ok (.invokevirtual 83, 3) := by decide +kernel
theorem dX2_copyFrom_141 : decode cX2_copyFrom 141 = .ok (.aload_n 0, 1) := by decide +kernel
theorem dX2_copyFrom_142 : decode cX2_copyFrom 142 = .ok (.getfield 62, 3) := by decide +kernel
theorem dX2_copyFrom_145 : decode cX2_copyFrom 145 = .ok (.aload_n 1, 1) := by decide +kernel
theorem dX2_copyFrom_146 : decode cX2_copyFrom 146 = .ok (.getfield 62, 3) := by decide +kernel
theorem dX2_copyFrom_149 : decode cX2_copyFrom 149 = .ok (.invokevirtual 83, 3) := by decide +kernel
theorem dX2_copyFrom_152 : decode cX2_copyFrom 152 = .ok (.return_, 1) := by decide +kernel
theorem dX2_loanOf_0 : decode cX2_loanOf 0 = .ok (.iload_n 1, 1) := by decide +kernel
theorem dX2_loanOf_1 : decode cX2_loanOf 1 = .ok (.ifCond .lt 21, 3) := by decide +kernel
theorem dX2_loanOf_4 : decode cX2_loanOf 4 = .ok (.iload_n 1, 1) := by decide +kernel
theorem dX2_loanOf_5 : decode cX2_loanOf 5 = .ok (.aload_n 0, 1) := by decide +kernel
theorem dX2_loanOf_6 : decode cX2_loanOf 6 = .ok (.getfield 43, 3) := by decide +kernel
theorem dX2_loanOf_9 : decode cX2_loanOf 9 = .ok (.arraylength, 1) := by decide +kernel
theorem dX2_loanOf_10 : decode cX2_loanOf 10 = .ok (.if_icmp .ge 12, 3) := by decide +kernel
theorem dX2_loanOf_13 : decode cX2_loanOf 13 = .ok (.aload_n 0, 1) := by decide +kernel
theorem dX2_loanOf_14 : decode cX2_loanOf 14 = .ok (.getfield 43, 3) := by decide +kernel
theorem dX2_loanOf_17 : decode cX2_loanOf 17 = .ok (.iload_n 1, 1) := by decide +kernel
theorem dX2_loanOf_18 : decode cX2_loanOf 18 = .ok (.iaload, 1) := by decide +kernel
theorem dX2_loanOf_19 : decode cX2_loanOf 19 = .ok (.goto 4, 3) := by decide +kernel
theorem dX2_loanOf_22 : decode cX2_loanOf 22 = .ok (.iconst (-1), 1) := by decide +kernel
theorem dX2_loanOf_23 : decode cX2_loanOf 23 = .ok (.ireturn, 1) := by decide +kernel
theorem dX2_pageAt_0 : decode cX2_pageAt 0 = .ok (.iconst 0, 1) := by decide +kernel
theorem dX2_pageAt_1 : decode cX2_pageAt 1 = .ok (.istore_n 3, 1) := by decide +kernel
theorem dX2_pageAt_2 : decode cX2_pageAt 2 = .ok (.iconst 0, 1) := by decide +kernel
theorem dX2_pageAt_3 : decode cX2_pageAt 3 = .ok (.istore 4, 2) := by decide +kernel
theorem dX2_pageAt_5 : decode cX2_pageAt 5 = .ok (.iload 4, 2) := by decide +kernel
theorem dX2_pageAt_7 : decode cX2_pageAt 7 = .ok (.aload_n 0, 1) := by decide +kernel
theorem dX2_pageAt_8 : decode cX2_pageAt 8 = .ok (.getfield 43, 3) := by decide +kernel
theorem dX2_pageAt_11 : decode cX2_pageAt 11 = .ok (.arraylength, 1) := by decide +kernel
theorem dX2_pageAt_12 : decode cX2_pageAt 12 = .ok (.if_icmp .ge 31, 3) := by decide +kernel
theorem dX2_pageAt_15 : decode cX2_pageAt 15 = .ok (.aload_n 0, 1) := by decide +kernel
theorem dX2_pageAt_16 : decode cX2_pageAt 16 = .ok (.getfield 43, 3) := by decide +kernel
theorem dX2_pageAt_19 : decode cX2_pageAt 19 = .ok (.iload 4, 2) := by decide +kernel
theorem dX2_pageAt_21 : decode cX2_pageAt 21 = .ok (.iaload, 1) := by decide +kernel
theorem dX2_pageAt_22 : decode cX2_pageAt 22 = .ok (.iload_n 1, 1) := by decide +kernel
theorem dX2_pageAt_23 : decode cX2_pageAt 23 = .ok (.if_icmp .ne 14, 3) := by decide +kernel
theorem dX2_pageAt_26 : decode cX2_pageAt 26 = .ok (.iload_n 3, 1) := by decide +kernel
theorem dX2_pageAt_27 : decode cX2_pageAt 27 = .ok (.iload_n 2, 1) := by decide +kernel
theorem dX2_pageAt_28 : decode cX2_pageAt 28 = .ok (.if_icmp .ne 6, 3) := by decide +kernel
theorem dX2_pageAt_31 : decode cX2_pageAt 31 = .ok (.iload 4, 2) := by decide +kernel
theorem dX2_pageAt_33 : decode cX2_pageAt 33 = .ok (.ireturn, 1) := by decide +kernel
theorem dX2_pageAt_34 : decode cX2_pageAt 34 = .ok (.iinc 3 1, 3) := by decide +kernel
theorem dX2_pageAt_37 : decode cX2_pageAt 37 = .ok (.iinc 4 1, 3) := by decide +kernel
theorem dX2_pageAt_40 : decode cX2_pageAt 40 = .ok (.goto (-35), 3) := by decide +kernel
theorem dX2_pageAt_43 : decode cX2_pageAt 43 = .ok (.iconst (-1), 1) := by decide +kernel
theorem dX2_pageAt_44 : decode cX2_pageAt 44 = .ok (.ireturn, 1) := by decide +kernel
theorem dX2_rowsOf_0 : decode cX2_rowsOf 0 = .ok (.iconst 0, 1) := by decide +kernel
theorem dX2_rowsOf_1 : decode cX2_rowsOf 1 = .ok (.istore_n 2, 1) := by decide +kernel
theorem dX2_rowsOf_2 : decode cX2_rowsOf 2 = .ok (.iconst 0, 1) := by decide +kernel
theorem dX2_rowsOf_3 : decode cX2_rowsOf 3 = .ok (.istore_n 3, 1) := by decide +kernel
theorem dX2_rowsOf_4 : decode cX2_rowsOf 4 = .ok (.aload_n 0, 1) := by decide +kernel
theorem dX2_rowsOf_5 : decode cX2_rowsOf 5 = .ok (.getfield 43, 3) := by decide +kernel
theorem dX2_rowsOf_8 : decode cX2_rowsOf 8 = .ok (.astore 4, 2) := by decide +kernel
theorem dX2_rowsOf_10 : decode cX2_rowsOf 10 = .ok (.aload 4, 2) := by decide +kernel
theorem dX2_rowsOf_12 : decode cX2_rowsOf 12 = .ok (.arraylength, 1) := by decide +kernel
theorem dX2_rowsOf_13 : decode cX2_rowsOf 13 = .ok (.istore 5, 2) := by decide +kernel
theorem dX2_rowsOf_15 : decode cX2_rowsOf 15 = .ok (.iconst 0, 1) := by decide +kernel
theorem dX2_rowsOf_16 : decode cX2_rowsOf 16 = .ok (.istore 6, 2) := by decide +kernel
theorem dX2_rowsOf_18 : decode cX2_rowsOf 18 = .ok (.iload 6, 2) := by decide +kernel
theorem dX2_rowsOf_20 : decode cX2_rowsOf 20 = .ok (.iload 5, 2) := by decide +kernel
theorem dX2_rowsOf_22 : decode cX2_rowsOf 22 = .ok (.if_icmp .ge 41, 3) := by decide +kernel
theorem dX2_rowsOf_25 : decode cX2_rowsOf 25 = .ok (.aload 4, 2) := by decide +kernel
theorem dX2_rowsOf_27 : decode cX2_rowsOf 27 = .ok (.iload 6, 2) := by decide +kernel
theorem dX2_rowsOf_29 : decode cX2_rowsOf 29 = .ok (.iaload, 1) := by decide +kernel
theorem dX2_rowsOf_30 : decode cX2_rowsOf 30 = .ok (.istore 7, 2) := by decide +kernel
theorem dX2_rowsOf_32 : decode cX2_rowsOf 32 = .ok (.iload 7, 2) := by decide +kernel
theorem dX2_rowsOf_34 : decode cX2_rowsOf 34 = .ok (.iload_n 1, 1) := by decide +kernel
theorem dX2_rowsOf_35 : decode cX2_rowsOf 35 = .ok (.if_icmp .ne 10, 3) := by decide +kernel
theorem dX2_rowsOf_38 : decode cX2_rowsOf 38 = .ok (.iload_n 3, 1) := by decide +kernel
theorem dX2_rowsOf_39 : decode cX2_rowsOf 39 = .ok (.ifCond .ne 6, 3) := by decide +kernel
theorem dX2_rowsOf_42 : decode cX2_rowsOf 42 = .ok (.iinc 2 1, 3) := by decide +kernel
theorem dX2_rowsOf_45 : decode cX2_rowsOf 45 = .ok (.iload 7, 2) := by decide +kernel
theorem dX2_rowsOf_47 : decode cX2_rowsOf 47 = .ok (.iload_n 1, 1) := by decide +kernel
theorem dX2_rowsOf_48 : decode cX2_rowsOf 48 = .ok (.if_icmp .ne 7, 3) := by decide +kernel
theorem dX2_rowsOf_51 : decode cX2_rowsOf 51 = .ok (.iconst 1, 1) := by decide +kernel
theorem dX2_rowsOf_52 : decode cX2_rowsOf 52 = .ok (.goto 4, 3) := by decide +kernel
theorem dX2_rowsOf_55 : decode cX2_rowsOf 55 = .ok (.iconst 0, 1) := by decide +kernel
theorem dX2_rowsOf_56 : decode cX2_rowsOf 56 = .ok (.istore_n 3, 1) := by decide +kernel
theorem dX2_rowsOf_57 : decode cX2_rowsOf 57 = .ok (.iinc 6 1, 3) := by decide +kernel
theorem dX2_rowsOf_60 : decode cX2_rowsOf 60 = .ok (.goto (-42), 3) := by decide +kernel
theorem dX2_rowsOf_63 : decode cX2_rowsOf 63 = .ok (.iload_n 2, 1) := by decide +kernel
theorem dX2_rowsOf_64 : decode cX2_rowsOf 64 = .ok (.ireturn, 1) := by decide +kernel
theorem dX2_lend_0 : decode cX2_lend 0 = .ok (.aload_n 0, 1) := by decide +kernel
theorem dX2_lend_1 : decode cX2_lend 1 = .ok (.getfield 21, 3) := by decide +kernel
theorem dX2_lend_4 : decode cX2_lend 4 = .ok (.istore 5, 2) := by decide +kernel
theorem dX2_lend_6 : decode cX2_lend 6 = .ok (.aload_n 0, 1) := by decide +kernel
theorem dX2_lend_7 : decode cX2_lend 7 = .ok (.dup, 1) := by decide +kernel
theorem dX2_lend_8 : decode cX2_lend 8 = .ok (.getfield 21, 3) := by decide +kernel
theorem dX2_lend_11 : decode cX2_lend 11 = .ok (.iconst 1, 1) := by decide +kernel
theorem dX2_lend_12 : decode cX2_lend 12 = .ok (.iadd, 1) := by decide +kernel
theorem dX2_lend_13 : decode cX2_lend 13 = .ok (.putfield 21, 3) := by decide +kernel
theorem dX2_lend_16 : decode cX2_lend 16 = .ok (.aload_n 0, 1) := by decide +kernel
theorem dX2_lend_17 : decode cX2_lend 17 = .ok (.getfield 56, 3) := by decide +kernel
theorem dX2_lend_20 : decode cX2_lend 20 = .ok (.iload 5, 2) := by decide +kernel
theorem dX2_lend_22 : decode cX2_lend 22 = .ok (.iconst 0, 1) := by decide +kernel
theorem dX2_lend_23 : decode cX2_lend 23 = .ok (.iload_n 1, 1) := by decide +kernel
theorem dX2_lend_24 : decode cX2_lend 24 = .ok (.invokevirtual 93, 3) := by decide +kernel
theorem dX2_lend_27 : decode cX2_lend 27 = .ok (.aload_n 0, 1) := by decide +kernel
theorem dX2_lend_28 : decode cX2_lend 28 = .ok (.getfield 56, 3) := by decide +kernel
theorem dX2_lend_31 : decode cX2_lend 31 = .ok (.iload 5, 2) := by decide +kernel
theorem dX2_lend_33 : decode cX2_lend 33 = .ok (.iconst 1, 1) := by decide +kernel
theorem dX2_lend_34 : decode cX2_lend 34 = .ok (.iload_n 2, 1) := by decide +kernel
theorem dX2_lend_35 : decode cX2_lend 35 = .ok (.invokevirtual 93, 3) := by decide +kernel
theorem dX2_lend_38 : decode cX2_lend 38 = .ok (.aload_n 0, 1) := by decide +kernel
theorem dX2_lend_39 : decode cX2_lend 39 = .ok (.getfield 56, 3) := by decide +kernel
theorem dX2_lend_42 : decode cX2_lend 42 = .ok (.iload 5, 2) := by decide +kernel
theorem dX2_lend_44 : decode cX2_lend 44 = .ok (.iconst 2, 1) := by decide +kernel
theorem dX2_lend_45 : decode cX2_lend 45 = .ok (.iload_n 3, 1) := by decide +kernel
theorem dX2_lend_46 : decode cX2_lend 46 = .ok (.invokevirtual 93, 3) := by decide +kernel
theorem dX2_lend_49 : decode cX2_lend 49 = .ok (.aload_n 0, 1) := by decide +kernel
theorem dX2_lend_50 : decode cX2_lend 50 = .ok (.getfield 56, 3) := by decide +kernel
theorem dX2_lend_53 : decode cX2_lend 53 = .ok (.iload 5, 2) := by decide +kernel
theorem dX2_lend_55 : decode cX2_lend 55 = .ok (.iconst 3, 1) := by decide +kernel
theorem dX2_lend_56 : decode cX2_lend 56 = .ok (.aload_n 0, 1) := by decide +kernel
theorem dX2_lend_57 : decode cX2_lend 57 = .ok (.getfield 9, 3) := by decide +kernel
theorem dX2_lend_60 : decode cX2_lend 60 = .ok (.invokevirtual 93, 3) := by decide +kernel
theorem dX2_lend_63 : decode cX2_lend 63 = .ok (.aload_n 0, 1) := by decide +kernel
theorem dX2_lend_64 : decode cX2_lend 64 = .ok (.getfield 56, 3) := by decide +kernel
theorem dX2_lend_67 : decode cX2_lend 67 = .ok (.iload 5, 2) := by decide +kernel
theorem dX2_lend_69 : decode cX2_lend 69 = .ok (.iconst 4, 1) := by decide +kernel
theorem dX2_lend_70 : decode cX2_lend 70 = .ok (.iload 4, 2) := by decide +kernel
theorem dX2_lend_72 : decode cX2_lend 72 = .ok (.invokevirtual 93, 3) := by decide +kernel
theorem dX2_lend_75 : decode cX2_lend 75 = .ok (.aload_n 0, 1) := by decide +kernel
theorem dX2_lend_76 : decode cX2_lend 76 = .ok (.getfield 56, 3) := by decide +kernel
theorem dX2_lend_79 : decode cX2_lend 79 = .ok (.iload 5, 2) := by decide +kernel
theorem dX2_lend_81 : decode cX2_lend 81 = .ok (.iconst 5, 1) := by decide +kernel
theorem dX2_lend_82 : decode cX2_lend 82 = .ok (.iconst 0, 1) := by decide +kernel
theorem dX2_lend_83 : decode cX2_lend 83 = .ok (.invokevirtual 93, 3) := by decide +kernel
theorem dX2_lend_86 : decode cX2_lend 86 = .ok (.aload_n 0, 1) := by decide +kernel
theorem dX2_lend_87 : decode cX2_lend 87 = .ok (.getfield 56, 3) := by decide +kernel
theorem dX2_lend_90 : decode cX2_lend 90 = .ok (.iload 5, 2) := by decide +kernel
theorem dX2_lend_92 : decode cX2_lend 92 = .ok (.bipush 6, 2) := by decide +kernel
theorem dX2_lend_94 : decode cX2_lend 94 = .ok (.iconst 0, 1) := by decide +kernel
theorem dX2_lend_95 : decode cX2_lend 95 = .ok (.invokevirtual 93, 3) := by decide +kernel
theorem dX2_lend_98 : decode cX2_lend 98 = .ok (.aload_n 0, 1) := by decide +kernel
theorem dX2_lend_99 : decode cX2_lend 99 = .ok (.getfield 56, 3) := by decide +kernel
theorem dX2_lend_102 : decode cX2_lend 102 = .ok (.iload 5, 2) := by decide +kernel
theorem dX2_lend_104 : decode cX2_lend 104 = .ok (.bipush 7, 2) := by decide +kernel
theorem dX2_lend_106 : decode cX2_lend 106 = .ok (.iload_n 2, 1) := by decide +kernel
theorem dX2_lend_107 : decode cX2_lend 107 = .ok (.invokevirtual 93, 3) := by decide +kernel
theorem dX2_lend_110 : decode cX2_lend 110 = .ok (.iload_n 2, 1) := by decide +kernel
theorem dX2_lend_111 : decode cX2_lend 111 = .ok (.istore 6, 2) := by decide +kernel
theorem dX2_lend_113 : decode cX2_lend 113 = .ok (.iconst 0, 1) := by decide +kernel
theorem dX2_lend_114 : decode cX2_lend 114 = .ok (.istore 7, 2) := by decide +kernel
theorem dX2_lend_116 : decode cX2_lend 116 = .ok (.iload 7, 2) := by decide +kernel
theorem dX2_lend_118 : decode cX2_lend 118 = .ok (.aload_n 0, 1) := by decide +kernel
theorem dX2_lend_119 : decode cX2_lend 119 = .ok (.getfield 43, 3) := by decide +kernel
theorem dX2_lend_122 : decode cX2_lend 122 = .ok (.arraylength, 1) := by decide +kernel
theorem dX2_lend_123 : decode cX2_lend 123 = .ok (.if_icmp .ge 37, 3) := by decide +kernel
theorem dX2_lend_126 : decode cX2_lend 126 = .ok (.iload 6, 2) := by decide +kernel
theorem dX2_lend_128 : decode cX2_lend 128 = .ok (.ifCond .le 32, 3) := by decide +kernel
theorem dX2_lend_131 : decode cX2_lend 131 = .ok (.aload_n 0, 1) := by decide +kernel
theorem dX2_lend_132 : decode cX2_lend 132 = .ok (.getfield 43, 3) := by decide +kernel
theorem dX2_lend_135 : decode cX2_lend 135 = .ok (.iload 7, 2) := by decide +kernel
theorem dX2_lend_137 : decode cX2_lend 137 = .ok (.iaload, 1) := by decide +kernel
theorem dX2_lend_138 : decode cX2_lend 138 = .ok (.iconst (-1), 1) := by decide +kernel
theorem dX2_lend_139 : decode cX2_lend 139 = .ok (.if_icmp .ne 15, 3) := by decide +kernel
theorem dX2_lend_142 : decode cX2_lend 142 = .ok (.aload_n 0, 1) := by decide +kernel
theorem dX2_lend_143 : decode cX2_lend 143 = .ok (.getfield 43, 3) := by decide +kernel
theorem dX2_lend_146 : decode cX2_lend 146 = .ok (.iload 7, 2) := by decide +kernel
theorem dX2_lend_148 : decode cX2_lend 148 = .ok (.iload 5, 2) := by decide +kernel
theorem dX2_lend_150 : decode cX2_lend 150 = .ok (.iastore, 1) := by decide +kernel
theorem dX2_lend_151 : decode cX2_lend 151 = .ok (.iinc 6 (-1), 3) := by decide +kernel
theorem dX2_lend_154 : decode cX2_lend 154 = .ok (.iinc 7 1, 3) := by decide +kernel
theorem dX2_lend_157 : decode cX2_lend 157 = .ok (.goto (-41), 3) := by decide +kernel
theorem dX2_lend_160 : decode cX2_lend 160 = .ok (.aload_n 0, 1) := by decide +kernel
theorem dX2_lend_161 : decode cX2_lend 161 = .ok (.dup, 1) := by decide +kernel
theorem dX2_lend_162 : decode cX2_lend 162 = .ok (.getfield 18, 3) := by decide +kernel
theorem dX2_lend_165 : decode cX2_lend 165 = .ok (.iload_n 2, 1) := by decide +kernel
theorem dX2_lend_166 : decode cX2_lend 166 = .ok (.isub, 1) := by decide +kernel
theorem dX2_lend_167 : decode cX2_lend 167 = .ok (.putfield 18, 3) := by decide +kernel
theorem dX2_lend_170 : decode cX2_lend 170 = .ok (.iload 5, 2) := by decide +kernel
theorem dX2_lend_172 : decode cX2_lend 172 = .ok (.ireturn, 1) := by decide +kernel
theorem dX2_release_0 : decode cX2_release 0 = .ok (.iload_n 2, 1) := by decide +kernel
theorem dX2_release_1 : decode cX2_release 1 = .ok (.istore_n 3, 1) := by decide +kernel
theorem dX2_release_2 : decode cX2_release 2 = .ok (.aload_n 0, 1) := by decide +kernel
theorem dX2_release_3 : decode cX2_release 3 = .ok (.getfield 43, 3) := by decide +kernel
theorem dX2_release_6 : decode cX2_release 6 = .ok (.arraylength, 1) := by decide +kernel
theorem dX2_release_7 : decode cX2_release 7 = .ok (.iconst 1, 1) := by decide +kernel
theorem dX2_release_8 : decode cX2_release 8 = .ok (.isub, 1) := by decide +kernel
theorem dX2_release_9 : decode cX2_release 9 = .ok (.istore 4, 2) := by decide +kernel
theorem dX2_release_11 : decode cX2_release 11 = .ok (.iload 4, 2) := by decide +kernel
theorem dX2_release_13 : decode cX2_release 13 = .ok (.ifCond .lt 35, 3) := by decide +kernel
theorem dX2_release_16 : decode cX2_release 16 = .ok (.iload_n 3, 1) := by decide +kernel
theorem dX2_release_17 : decode cX2_release 17 = .ok (.ifCond .le 31, 3) := by decide +kernel
theorem dX2_release_20 : decode cX2_release 20 = .ok (.aload_n 0, 1) := by decide +kernel
theorem dX2_release_21 : decode cX2_release 21 = .ok (.getfield 43, 3) := by decide +kernel
theorem dX2_release_24 : decode cX2_release 24 = .ok (.iload 4, 2) := by decide +kernel
theorem dX2_release_26 : decode cX2_release 26 = .ok (.iaload, 1) := by decide +kernel
theorem dX2_release_27 : decode cX2_release 27 = .ok (.iload_n 1, 1) := by decide +kernel
theorem dX2_release_28 : decode cX2_release 28 = .ok (.if_icmp .ne 14, 3) := by decide +kernel
theorem dX2_release_31 : decode cX2_release 31 = .ok (.aload_n 0, 1) := by decide +kernel
theorem dX2_release_32 : decode cX2_release 32 = .ok (.getfield 43, 3) := by decide +kernel
theorem dX2_release_35 : decode cX2_release 35 = .ok (.iload 4, 2) := by decide +kernel
theorem dX2_release_37 : decode cX2_release 37 = .ok (.iconst (-1), 1) := by decide +kernel
theorem dX2_release_38 : decode cX2_release 38 = .ok (.iastore, 1) := by decide +kernel
theorem dX2_release_39 : decode cX2_release 39 = .ok (.iinc 3 (-1), 3) := by decide +kernel
theorem dX2_release_42 : decode cX2_release 42 = .ok (.iinc 4 (-1), 3) := by decide +kernel
theorem dX2_release_45 : decode cX2_release 45 = .ok (.goto (-34), 3) := by decide +kernel
theorem dX2_release_48 : decode cX2_release 48 = .ok (.aload_n 0, 1) := by decide +kernel
theorem dX2_release_49 : decode cX2_release 49 = .ok (.getfield 56, 3) := by decide +kernel
theorem dX2_release_52 : decode cX2_release 52 = .ok (.iload_n 1, 1) := by decide +kernel
theorem dX2_release_53 : decode cX2_release 53 = .ok (.iconst 1, 1) := by decide +kernel
theorem dX2_release_54 : decode cX2_release 54 = .ok (.iload_n 2, 1) := by decide +kernel
theorem dX2_release_55 : decode cX2_release 55 = .ok (.ineg, 1) := by decide +kernel
theorem dX2_release_56 : decode cX2_release 56 = .ok (.invokevirtual 97, 3) := by decide +kernel
theorem dX2_release_59 : decode cX2_release 59 = .ok (.aload_n 0, 1) := by decide +kernel
theorem dX2_release_60 : decode cX2_release 60 = .ok (.dup, 1) := by decide +kernel
theorem dX2_release_61 : decode cX2_release 61 = .ok (.getfield 18, 3) := by decide +kernel
theorem dX2_release_64 : decode cX2_release 64 = .ok (.iload_n 2, 1) := by decide +kernel
theorem dX2_release_65 : decode cX2_release 65 = .ok (.iadd, 1) := by decide +kernel
theorem dX2_release_66 : decode cX2_release 66 = .ok (.putfield 18, 3) := by decide +kernel
theorem dX2_release_69 : decode cX2_release 69 = .ok (.return_, 1) := by decide +kernel
theorem dX2_isOpen_0 : decode cX2_isOpen 0 = .ok (.aload_n 0, 1) := by decide +kernel
theorem dX2_isOpen_1 : decode cX2_isOpen 1 = .ok (.getfield 56, 3) := by decide +kernel
theorem dX2_isOpen_4 : decode cX2_isOpen 4 = .ok (.iload_n 1, 1) := by decide +kernel
theorem dX2_isOpen_5 : decode cX2_isOpen 5 = .ok (.iconst 1, 1) := by decide +kernel
theorem dX2_isOpen_6 : decode cX2_isOpen 6 = .ok (.invokevirtual 100, 3) := by decide +kernel
theorem dX2_isOpen_9 : decode cX2_isOpen 9 = .ok (.ifCond .le 7, 3) := by decide +kernel
theorem dX2_isOpen_12 : decode cX2_isOpen 12 = .ok (.iconst 1, 1) := by decide +kernel
theorem dX2_isOpen_13 : decode cX2_isOpen 13 = .ok (.goto 4, 3) := by decide +kernel
theorem dX2_isOpen_16 : decode cX2_isOpen 16 = .ok (.iconst 0, 1) := by decide +kernel
theorem dX2_isOpen_17 : decode cX2_isOpen 17 = .ok (.ireturn, 1) := by decide +kernel
theorem dX2_isBroken_0 : decode cX2_isBroken 0 = .ok (.aload_n 0, 1) := by decide +kernel
theorem dX2_isBroken_1 : decode cX2_isBroken 1 = .ok (.getfield 56, 3) := by decide +kernel
theorem dX2_isBroken_4 : decode cX2_isBroken 4 = .ok (.iload_n 1, 1) := by decide +kernel
theorem dX2_isBroken_5 : decode cX2_isBroken 5 = .ok (.iconst 1, 1) := by decide +kernel
theorem dX2_isBroken_6 : decode cX2_isBroken 6 = .ok (.invokevirtual 100, 3) := by decide +kernel
theorem dX2_isBroken_9 : decode cX2_isBroken 9 = .ok (.ifCond .le 23, 3) := by decide +kernel
theorem dX2_isBroken_12 : decode cX2_isBroken 12 = .ok (.aload_n 0, 1) := by decide +kernel
theorem dX2_isBroken_13 : decode cX2_isBroken 13 = .ok (.getfield 56, 3) := by decide +kernel
theorem dX2_isBroken_16 : decode cX2_isBroken 16 = .ok (.iload_n 1, 1) := by decide +kernel
theorem dX2_isBroken_17 : decode cX2_isBroken 17 = .ok (.iconst 2, 1) := by decide +kernel
theorem dX2_isBroken_18 : decode cX2_isBroken 18 = .ok (.invokevirtual 100, 3) := by decide +kernel
theorem dX2_isBroken_21 : decode cX2_isBroken 21 = .ok (.aload_n 0, 1) := by decide +kernel
theorem dX2_isBroken_22 : decode cX2_isBroken 22 = .ok (.getfield 9, 3) := by decide +kernel
theorem dX2_isBroken_25 : decode cX2_isBroken 25 = .ok (.if_icmp .ge 7, 3) := by decide +kernel
theorem dX2_isBroken_28 : decode cX2_isBroken 28 = .ok (.iconst 1, 1) := by decide +kernel
theorem dX2_isBroken_29 : decode cX2_isBroken 29 = .ok (.goto 4, 3) := by decide +kernel
theorem dX2_isBroken_32 : decode cX2_isBroken 32 = .ok (.iconst 0, 1) := by decide +kernel
theorem dX2_isBroken_33 : decode cX2_isBroken 33 = .ok (.ireturn, 1) := by decide +kernel
theorem dX2_isLoanOf_0 : decode cX2_isLoanOf 0 = .ok (.iload_n 2, 1) := by decide +kernel
theorem dX2_isLoanOf_1 : decode cX2_isLoanOf 1 = .ok (.iconst (-1), 1) := by decide +kernel
theorem dX2_isLoanOf_2 : decode cX2_isLoanOf 2 = .ok (.if_icmp .eq 16, 3) := by decide +kernel
theorem dX2_isLoanOf_5 : decode cX2_isLoanOf 5 = .ok (.aload_n 0, 1) := by decide +kernel
theorem dX2_isLoanOf_6 : decode cX2_isLoanOf 6 = .ok (.getfield 56, 3) := by decide +kernel
theorem dX2_isLoanOf_9 : decode cX2_isLoanOf 9 = .ok (.iload_n 1, 1) := by decide +kernel
theorem dX2_isLoanOf_10 : decode cX2_isLoanOf 10 = .ok (.iconst 0, 1) := by decide +kernel
theorem dX2_isLoanOf_11 : decode cX2_isLoanOf 11 = .ok (.invokevirtual 100, 3) := by decide +kernel
theorem dX2_isLoanOf_14 : decode cX2_isLoanOf 14 = .ok (.iload_n 2, 1) := by decide +kernel
theorem dX2_isLoanOf_15 : decode cX2_isLoanOf 15 = .ok (.if_icmp .ne 7, 3) := by decide +kernel
theorem dX2_isLoanOf_18 : decode cX2_isLoanOf 18 = .ok (.iconst 1, 1) := by decide +kernel
theorem dX2_isLoanOf_19 : decode cX2_isLoanOf 19 = .ok (.goto 4, 3) := by decide +kernel
theorem dX2_isLoanOf_22 : decode cX2_isLoanOf 22 = .ok (.iconst 0, 1) := by decide +kernel
theorem dX2_isLoanOf_23 : decode cX2_isLoanOf 23 = .ok (.ireturn, 1) := by decide +kernel
theorem dX2_openLoans_0 : decode cX2_openLoans 0 = .ok (.iconst 0, 1) := by decide +kernel
theorem dX2_openLoans_1 : decode cX2_openLoans 1 = .ok (.istore_n 2, 1) := by decide +kernel
theorem dX2_openLoans_2 : decode cX2_openLoans 2 = .ok (.iconst 0, 1) := by decide +kernel
theorem dX2_openLoans_3 : decode cX2_openLoans 3 = .ok (.istore_n 3, 1) := by decide +kernel
theorem dX2_openLoans_4 : decode cX2_openLoans 4 = .ok (.iload_n 3, 1) := by decide +kernel
theorem dX2_openLoans_5 : decode cX2_openLoans 5 = .ok (.aload_n 0, 1) := by decide +kernel
theorem dX2_openLoans_6 : decode cX2_openLoans 6 = .ok (.getfield 21, 3) := by decide +kernel
theorem dX2_openLoans_9 : decode cX2_openLoans 9 = .ok (.if_icmp .ge 29, 3) := by decide +kernel
theorem dX2_openLoans_12 : decode cX2_openLoans 12 = .ok (.aload_n 0, 1) := by decide +kernel
theorem dX2_openLoans_13 : decode cX2_openLoans 13 = .ok (.iload_n 3, 1) := by decide +kernel
theorem dX2_openLoans_14 : decode cX2_openLoans 14 = .ok (.invokevirtual 103, 3) := by decide +kernel
theorem dX2_openLoans_17 : decode cX2_openLoans 17 = .ok (.ifCond .eq 15, 3) := by decide +kernel
theorem dX2_openLoans_20 : decode cX2_openLoans 20 = .ok (.aload_n 0, 1) := by decide +kernel
theorem dX2_openLoans_21 : decode cX2_openLoans 21 = .ok (.iload_n 3, 1) := by decide +kernel
theorem dX2_openLoans_22 : decode cX2_openLoans 22 = .ok (.iload_n 1, 1) := by decide +kernel
theorem dX2_openLoans_23 : decode cX2_openLoans 23 = .ok (.invokevirtual 113, 3) := by decide +kernel
theorem dX2_openLoans_26 : decode cX2_openLoans 26 = .ok (.ifCond .eq 6, 3) := by decide +kernel
theorem dX2_openLoans_29 : decode cX2_openLoans 29 = .ok (.iinc 2 1, 3) := by decide +kernel
theorem dX2_openLoans_32 : decode cX2_openLoans 32 = .ok (.iinc 3 1, 3) := by decide +kernel
theorem dX2_openLoans_35 : decode cX2_openLoans 35 = .ok (.goto (-31), 3) := by decide +kernel
theorem dX2_openLoans_38 : decode cX2_openLoans 38 = .ok (.iload_n 2, 1) := by decide +kernel
theorem dX2_openLoans_39 : decode cX2_openLoans 39 = .ok (.ireturn, 1) := by decide +kernel
theorem dX2_brokenLoans_0 : decode cX2_brokenLoans 0 = .ok (.iconst 0, 1) := by decide +kernel
theorem dX2_brokenLoans_1 : decode cX2_brokenLoans 1 = .ok (.istore_n 2, 1) := by decide +kernel
theorem dX2_brokenLoans_2 : decode cX2_brokenLoans 2 = .ok (.iconst 0, 1) := by decide +kernel
theorem dX2_brokenLoans_3 : decode cX2_brokenLoans 3 = .ok (.istore_n 3, 1) := by decide +kernel
theorem dX2_brokenLoans_4 : decode cX2_brokenLoans 4 = .ok (.iload_n 3, 1) := by decide +kernel
theorem dX2_brokenLoans_5 : decode cX2_brokenLoans 5 = .ok (.aload_n 0, 1) := by decide +kernel
theorem dX2_brokenLoans_6 : decode cX2_brokenLoans 6 = .ok (.getfield 21, 3) := by decide +kernel
theorem dX2_brokenLoans_9 : decode cX2_brokenLoans 9 = .ok (.if_icmp .ge 29, 3) := by decide +kernel
theorem dX2_brokenLoans_12 : decode cX2_brokenLoans 12 = .ok (.aload_n 0, 1) := by decide +kernel
theorem dX2_brokenLoans_13 : decode cX2_brokenLoans 13 = .ok (.iload_n 3, 1) := by decide +kernel
theorem dX2_brokenLoans_14 : decode cX2_brokenLoans 14 = .ok (.invokevirtual 107, 3) := by decide +kernel
theorem dX2_brokenLoans_17 : decode cX2_brokenLoans 17 = .ok (.ifCond .eq 15, 3) := by decide +kernel
theorem dX2_brokenLoans_20 : decode cX2_brokenLoans 20 = .ok (.aload_n 0, 1) := by decide +kernel
theorem dX2_brokenLoans_21 : decode cX2_brokenLoans 21 = .ok (.iload_n 3, 1) := by decide +kernel
theorem dX2_brokenLoans_22 : decode cX2_brokenLoans 22 = .ok (.iload_n 1, 1) := by decide +kernel
theorem dX2_brokenLoans_23 : decode cX2_brokenLoans 23 = .ok (.invokevirtual 113, 3) := by decide +kernel
theorem dX2_brokenLoans_26 : decode cX2_brokenLoans 26 = .ok (.ifCond .eq 6, 3) := by decide +kernel
theorem dX2_brokenLoans_29 : decode cX2_brokenLoans 29 = .ok (.iinc 2 1, 3) := by decide +kernel
theorem dX2_brokenLoans_32 : decode cX2_brokenLoans 32 = .ok (.iinc 3 1, 3) := by decide +kernel
theorem dX2_brokenLoans_35 : decode cX2_brokenLoans 35 = .ok (.goto (-31), 3) := by decide +kernel
theorem dX2_brokenLoans_38 : decode cX2_brokenLoans 38 = .ok (.iload_n 2, 1) := by decide +kernel
theorem dX2_brokenLoans_39 : decode cX2_brokenLoans 39 = .ok (.ireturn, 1) := by decide +kernel
theorem dX2_heldPages_0 : decode cX2_heldPages 0 = .ok (.iconst 0, 1) := by decide +kernel
theorem dX2_heldPages_1 : decode cX2_heldPages 1 = .ok (.istore_n 2, 1) := by decide +kernel
theorem dX2_heldPages_2 : decode cX2_heldPages 2 = .ok (.iconst 0, 1) := by decide +kernel
theorem dX2_heldPages_3 : decode cX2_heldPages 3 = .ok (.istore_n 3, 1) := by decide +kernel
theorem dX2_heldPages_4 : decode cX2_heldPages 4 = .ok (.iload_n 3, 1) := by decide +kernel
theorem dX2_heldPages_5 : decode cX2_heldPages 5 = .ok (.aload_n 0, 1) := by decide +kernel
theorem dX2_heldPages_6 : decode cX2_heldPages 6 = .ok (.getfield 21, 3) := by decide +kernel
theorem dX2_heldPages_9 : decode cX2_heldPages 9 = .ok (.if_icmp .ge 30, 3) := by decide +kernel
theorem dX2_heldPages_12 : decode cX2_heldPages 12 = .ok (.aload_n 0, 1) := by decide +kernel
theorem dX2_heldPages_13 : decode cX2_heldPages 13 = .ok (.iload_n 3, 1) := by decide +kernel
theorem dX2_heldPages_14 : decode cX2_heldPages 14 = .ok (.iload_n 1, 1) := by decide +kernel
theorem dX2_heldPages_15 : decode cX2_heldPages 15 = .ok (.invokevirtual 113, 3) := by decide +kernel
theorem dX2_heldPages_18 : decode cX2_heldPages 18 = .ok (.ifCond .eq 15, 3) := by decide +kernel
theorem dX2_heldPages_21 : decode cX2_heldPages 21 = .ok (.iload_n 2, 1) := by decide +kernel
theorem dX2_heldPages_22 : decode cX2_heldPages 22 = .ok (.aload_n 0, 1) := by decide +kernel
theorem dX2_heldPages_23 : decode cX2_heldPages 23 = .ok (.getfield 56, 3) := by decide +kernel
theorem dX2_heldPages_26 : decode cX2_heldPages 26 = .ok (.iload_n 3, 1) := by decide +kernel
theorem dX2_heldPages_27 : decode cX2_heldPages 27 = .ok (.iconst 1, 1) := by decide +kernel
theorem dX2_heldPages_28 : decode cX2_heldPages 28 = .ok (.invokevirtual 100, 3) := by decide +kernel
theorem dX2_heldPages_31 : decode cX2_heldPages 31 = .ok (.iadd, 1) := by decide +kernel
theorem dX2_heldPages_32 : decode cX2_heldPages 32 = .ok (.istore_n 2, 1) := by decide +kernel
theorem dX2_heldPages_33 : decode cX2_heldPages 33 = .ok (.iinc 3 1, 3) := by decide +kernel
theorem dX2_heldPages_36 : decode cX2_heldPages 36 = .ok (.goto (-32), 3) := by decide +kernel
theorem dX2_heldPages_39 : decode cX2_heldPages 39 = .ok (.iload_n 2, 1) := by decide +kernel
theorem dX2_heldPages_40 : decode cX2_heldPages 40 = .ok (.ireturn, 1) := by decide +kernel
theorem dX2_brokenPages_0 : decode cX2_brokenPages 0 = .ok (.iconst 0, 1) := by decide +kernel
theorem dX2_brokenPages_1 : decode cX2_brokenPages 1 = .ok (.istore_n 1, 1) := by decide +kernel
theorem dX2_brokenPages_2 : decode cX2_brokenPages 2 = .ok (.iconst 0, 1) := by decide +kernel
theorem dX2_brokenPages_3 : decode cX2_brokenPages 3 = .ok (.istore_n 2, 1) := by decide +kernel
theorem dX2_brokenPages_4 : decode cX2_brokenPages 4 = .ok (.iload_n 2, 1) := by decide +kernel
theorem dX2_brokenPages_5 : decode cX2_brokenPages 5 = .ok (.aload_n 0, 1) := by decide +kernel
theorem dX2_brokenPages_6 : decode cX2_brokenPages 6 = .ok (.getfield 21, 3) := by decide +kernel
theorem dX2_brokenPages_9 : decode cX2_brokenPages 9 = .ok (.if_icmp .ge 29, 3) := by decide +kernel
theorem dX2_brokenPages_12 : decode cX2_brokenPages 12 = .ok (.aload_n 0, 1) := by decide +kernel
theorem dX2_brokenPages_13 : decode cX2_brokenPages 13 = .ok (.iload_n 2, 1) := by decide +kernel
theorem dX2_brokenPages_14 : decode cX2_brokenPages 14 = .ok (.invokevirtual 107, 3) := by decide +kernel
theorem dX2_brokenPages_17 : decode cX2_brokenPages 17 = .ok (.ifCond .eq 15, 3) := by decide +kernel
theorem dX2_brokenPages_20 : decode cX2_brokenPages 20 = .ok (.iload_n 1, 1) := by decide +kernel
theorem dX2_brokenPages_21 : decode cX2_brokenPages 21 = .ok (.aload_n 0, 1) := by decide +kernel
theorem dX2_brokenPages_22 : decode cX2_brokenPages 22 = .ok (.getfield 56, 3) := by decide +kernel
theorem dX2_brokenPages_25 : decode cX2_brokenPages 25 = .ok (.iload_n 2, 1) := by decide +kernel
theorem dX2_brokenPages_26 : decode cX2_brokenPages 26 = .ok (.iconst 1, 1) := by decide +kernel
theorem dX2_brokenPages_27 : decode cX2_brokenPages 27 = .ok (.invokevirtual 100, 3) := by decide +kernel
theorem dX2_brokenPages_30 : decode cX2_brokenPages 30 = .ok (.iadd, 1) := by decide +kernel
theorem dX2_brokenPages_31 : decode cX2_brokenPages 31 = .ok (.istore_n 1, 1) := by decide +kernel
theorem dX2_brokenPages_32 : decode cX2_brokenPages 32 = .ok (.iinc 2 1, 3) := by decide +kernel
theorem dX2_brokenPages_35 : decode cX2_brokenPages 35 = .ok (.goto (-31), 3) := by decide +kernel
theorem dX2_brokenPages_38 : decode cX2_brokenPages 38 = .ok (.iload_n 1, 1) := by decide +kernel
theorem dX2_brokenPages_39 : decode cX2_brokenPages 39 = .ok (.ireturn, 1) := by decide +kernel
theorem dX2_earliestBroken_0 : decode cX2_earliestBroken 0 = .ok (.iconst (-1), 1) := by decide +kernel
theorem dX2_earliestBroken_1 : decode cX2_earliestBroken 1 = .ok (.istore_n 1, 1) := by decide +kernel
theorem dX2_earliestBroken_2 : decode cX2_earliestBroken 2 = .ok (.aload_n 0, 1) := by decide +kernel
theorem dX2_earliestBroken_3 : decode cX2_earliestBroken 3 = .ok (.getfield 9, 3) := by decide +kernel
theorem dX2_earliestBroken_6 : decode cX2_earliestBroken 6 = .ok (.istore_n 2, 1) := by decide +kernel
theorem dX2_earliestBroken_7 : decode cX2_earliestBroken 7 = .ok (.iconst 0, 1) := by decide +kernel
theorem dX2_earliestBroken_8 : decode cX2_earliestBroken 8 = .ok (.istore_n 3, 1) := by decide +kernel
theorem dX2_earliestBroken_9 : decode cX2_earliestBroken 9 = .ok (.iload_n 3, 1) := by decide +kernel
theorem dX2_earliestBroken_10 : decode cX2_earliestBroken 10 = .ok (.aload_n 0, 1) := by decide +kernel
theorem dX2_earliestBroken_11 : decode cX2_earliestBroken 11 = .ok (.getfield 21, 3) := by decide +kernel
theorem dX2_earliestBroken_14 : decode cX2_earliestBroken 14 = .ok (.if_icmp .ge 46, 3) := by decide +kernel
theorem dX2_earliestBroken_17 : decode cX2_earliestBroken 17 = .ok (.aload_n 0, 1) := by decide +kernel
theorem dX2_earliestBroken_18 : decode cX2_earliestBroken 18 = .ok (.getfield 56, 3) := by decide +kernel
theorem dX2_earliestBroken_21 : decode cX2_earliestBroken 21 = .ok (.iload_n 3, 1) := by decide +kernel
theorem dX2_earliestBroken_22 : decode cX2_earliestBroken 22 = .ok (.iconst 2, 1) := by decide +kernel
theorem dX2_earliestBroken_23 : decode cX2_earliestBroken 23 = .ok (.invokevirtual 100, 3) := by decide +kernel
theorem dX2_earliestBroken_26 : decode cX2_earliestBroken 26 = .ok (.iload_n 2, 1) := by decide +kernel
theorem dX2_earliestBroken_27 : decode cX2_earliestBroken 27 = .ok (.if_icmp .ge 27, 3) := by decide +kernel
theorem dX2_earliestBroken_30 : decode cX2_earliestBroken 30 = .ok (.aload_n 0, 1) := by decide +kernel
theorem dX2_earliestBroken_31 : decode cX2_earliestBroken 31 = .ok (.getfield 56, 3) := by decide +kernel
theorem dX2_earliestBroken_34 : decode cX2_earliestBroken 34 = .ok (.iload_n 3, 1) := by decide +kernel
theorem dX2_earliestBroken_35 : decode cX2_earliestBroken 35 = .ok (.iconst 1, 1) := by decide +kernel
theorem dX2_earliestBroken_36 : decode cX2_earliestBroken 36 = .ok (.invokevirtual 100, 3) := by decide +kernel
theorem dX2_earliestBroken_39 : decode cX2_earliestBroken 39 = .ok (.ifCond .le 15, 3) := by decide +kernel
theorem dX2_earliestBroken_42 : decode cX2_earliestBroken 42 = .ok (.iload_n 3, 1) := by decide +kernel
theorem dX2_earliestBroken_43 : decode cX2_earliestBroken 43 = .ok (.istore_n 1, 1) := by decide +kernel
theorem dX2_earliestBroken_44 : decode cX2_earliestBroken 44 = .ok (.aload_n 0, 1) := by decide +kernel
theorem dX2_earliestBroken_45 : decode cX2_earliestBroken 45 = .ok (.getfield 56, 3) := by decide +kernel
theorem dX2_earliestBroken_48 : decode cX2_earliestBroken 48 = .ok (.iload_n 3, 1) := by decide +kernel
theorem dX2_earliestBroken_49 : decode cX2_earliestBroken 49 = .ok (.iconst 2, 1) := by decide +kernel
theorem dX2_earliestBroken_50 : decode cX2_earliestBroken 50 = .ok (.invokevirtual 100, 3) := by decide +kernel
theorem dX2_earliestBroken_53 : decode cX2_earliestBroken 53 = .ok (.istore_n 2, 1) := by decide +kernel
theorem dX2_earliestBroken_54 : decode cX2_earliestBroken 54 = .ok (.iinc 3 1, 3) := by decide +kernel
theorem dX2_earliestBroken_57 : decode cX2_earliestBroken 57 = .ok (.goto (-48), 3) := by decide +kernel
theorem dX2_earliestBroken_60 : decode cX2_earliestBroken 60 = .ok (.iload_n 1, 1) := by decide +kernel
theorem dX2_earliestBroken_61 : decode cX2_earliestBroken 61 = .ok (.ireturn, 1) := by decide +kernel
def s_X2_begin_62 (n : Nat) (w1_j62 : Int32) (rc_62 : (OS) → (Int32) → Option (OS)) (th_j62 : OS) (w2_j62 : Int32) : Option (OS) :=
  if (64 : Int32) ≤ w2_j62 then (
  some th_j62) else (
  if w1_j62 ≤ w2_j62 then (
  gI 64 w2_j62 (Let (sA th_j62 10 (upd (th_j62.2.1 10) w2_j62.toNatClampNeg (-2 : Int32))) (fun th_14 : OS =>
  Let (w2_j62 + (1 : Int32)) (fun v2_15 : Int32 =>
  rc_62 th_14 v2_15)))) else (
  gI 64 w2_j62 (Let (sA th_j62 10 (upd (th_j62.2.1 10) w2_j62.toNatClampNeg (-1 : Int32))) (fun th_16 : OS =>
  Let (w2_j62 + (1 : Int32)) (fun v2_17 : Int32 =>
  rc_62 th_16 v2_17)))))
def l_X2_begin_62 (n : Nat) (w1_j62 : Int32) : Nat → (OS) → (Int32) → Option (OS)
  | 0 => fun _ _ => none
  | N + 1 => s_X2_begin_62 n w1_j62 (l_X2_begin_62 n w1_j62 N)
def f_X2_begin (n : Nat) (th_0 : OS) (v1_0 : Int32) : Option (OS) :=
  Let (sI th_0 0 (0 : Int32)) (fun th_1 : OS =>
  Let (sI th_1 1 (0 : Int32)) (fun th_2 : OS =>
  Let (sI th_2 2 v1_0) (fun th_3 : OS =>
  Let (sI th_3 3 (0 : Int32)) (fun th_4 : OS =>
  Let (sI th_4 4 (0 : Int32)) (fun th_5 : OS =>
  Let (sI th_5 5 (0 : Int32)) (fun th_6 : OS =>
  Let (sI th_6 6 (0 : Int32)) (fun th_7 : OS =>
  Let (sI th_7 7 (0 : Int32)) (fun th_8 : OS =>
  Let (sI th_8 8 (0 : Int32)) (fun th_9 : OS =>
  bnd (f_X6_clear n (5 : Int32) 40 (th_9.2.1 11)) (fun (y_10 : Nat → Int32) =>
  Let (sA th_9 11 y_10) (fun th_11 : OS =>
  bnd (f_J7_fill_d0a16 n 251 (th_11.2.2.1 9) (0 : Int64)) (fun (y_12 : Nat → Int64) =>
  Let (sL th_11 9 y_12) (fun th_13 : OS =>
  l_X2_begin_62 n v1_0 n th_13 (0 : Int32))))))))))))))
set_option maxHeartbeats 4000000 in
set_option maxRecDepth 100000 in
theorem c_X2_begin (n : Nat) (l : Launch) (k : KT) (a_th : Nat → Nat) (th_0 : OS) (v1_0 : Int32) (res : (OS)) (hf : f_X2_begin n th_0 v1_0 = some res) : CG l k yX2_begin cX2_begin 3 none 2 0 0 43 [.ref (a_th 0), .int v1_0] (wCourt k a_th th_0) (Qv k (fun u : OS => wCourt k a_th u) (fun u : OS => res = u)) := by
  refine CG.ofV (by decide) (Nat.le_of_ble_eq_true rfl) (fun p e s m args below meth c A Q E hnm hW hA hret ls hl => ?_)
  have hl : lv_has ls 3 [(0, .ref (a_th 0)), (1, .int v1_0)] := hl
  unfold f_X2_begin at hf
  refine k_aload_n E hl 0 dX2_begin_0 rfl ?_
  refine lv_iconst (v := (0 : Int32)) E.hx E.hb dX2_begin_1 ic_0 ?_
  obtain ⟨th_1, eth_1, hf⟩ := oL hf
  refine pf_X2_9 (ws2 := wCourt k a_th th_1) E hW 0 rfl rfl rfl (Nat.le_of_ble_eq_true rfl) dX2_begin_2 (by rw [eth_1]; rfl) (fun H locs hW => ?_)
  refine k_aload_n E hl 0 dX2_begin_5 rfl ?_
  refine lv_iconst (v := (0 : Int32)) E.hx E.hb dX2_begin_6 ic_0 ?_
  obtain ⟨th_2, eth_2, hf⟩ := oL hf
  refine pf_X2_15 (ws2 := wCourt k a_th th_2) E hW 0 rfl rfl rfl (Nat.le_of_ble_eq_true rfl) dX2_begin_7 (by rw [eth_2]; rfl) (fun H locs hW => ?_)
  refine k_aload_n E hl 0 dX2_begin_10 rfl ?_
  refine k_iload_n E hl 1 dX2_begin_11 rfl ?_
  obtain ⟨th_3, eth_3, hf⟩ := oL hf
  refine pf_X2_18 (ws2 := wCourt k a_th th_3) E hW 0 rfl rfl rfl (Nat.le_of_ble_eq_true rfl) dX2_begin_12 (by rw [eth_3]; rfl) (fun H locs hW => ?_)
  refine k_aload_n E hl 0 dX2_begin_15 rfl ?_
  refine lv_iconst (v := (0 : Int32)) E.hx E.hb dX2_begin_16 ic_0 ?_
  obtain ⟨th_4, eth_4, hf⟩ := oL hf
  refine pf_X2_21 (ws2 := wCourt k a_th th_4) E hW 0 rfl rfl rfl (Nat.le_of_ble_eq_true rfl) dX2_begin_17 (by rw [eth_4]; rfl) (fun H locs hW => ?_)
  refine k_aload_n E hl 0 dX2_begin_20 rfl ?_
  refine lv_iconst (v := (0 : Int32)) E.hx E.hb dX2_begin_21 ic_0 ?_
  obtain ⟨th_5, eth_5, hf⟩ := oL hf
  refine pf_X2_24 (ws2 := wCourt k a_th th_5) E hW 0 rfl rfl rfl (Nat.le_of_ble_eq_true rfl) dX2_begin_22 (by rw [eth_5]; rfl) (fun H locs hW => ?_)
  refine k_aload_n E hl 0 dX2_begin_25 rfl ?_
  refine lv_iconst (v := (0 : Int32)) E.hx E.hb dX2_begin_26 ic_0 ?_
  obtain ⟨th_6, eth_6, hf⟩ := oL hf
  refine pf_X2_27 (ws2 := wCourt k a_th th_6) E hW 0 rfl rfl rfl (Nat.le_of_ble_eq_true rfl) dX2_begin_27 (by rw [eth_6]; rfl) (fun H locs hW => ?_)
  refine k_aload_n E hl 0 dX2_begin_30 rfl ?_
  refine lv_iconst (v := (0 : Int32)) E.hx E.hb dX2_begin_31 ic_0 ?_
  obtain ⟨th_7, eth_7, hf⟩ := oL hf
  refine pf_X2_30 (ws2 := wCourt k a_th th_7) E hW 0 rfl rfl rfl (Nat.le_of_ble_eq_true rfl) dX2_begin_32 (by rw [eth_7]; rfl) (fun H locs hW => ?_)
  refine k_aload_n E hl 0 dX2_begin_35 rfl ?_
  refine lv_iconst (v := (0 : Int32)) E.hx E.hb dX2_begin_36 ic_0 ?_
  obtain ⟨th_8, eth_8, hf⟩ := oL hf
  refine pf_X2_33 (ws2 := wCourt k a_th th_8) E hW 0 rfl rfl rfl (Nat.le_of_ble_eq_true rfl) dX2_begin_37 (by rw [eth_8]; rfl) (fun H locs hW => ?_)
  refine k_aload_n E hl 0 dX2_begin_40 rfl ?_
  refine lv_iconst (v := (0 : Int32)) E.hx E.hb dX2_begin_41 ic_0 ?_
  obtain ⟨th_9, eth_9, hf⟩ := oL hf
  refine pf_X2_36 (ws2 := wCourt k a_th th_9) E hW 0 rfl rfl rfl (Nat.le_of_ble_eq_true rfl) dX2_begin_42 (by rw [eth_9]; rfl) (fun H locs hW => ?_)
  refine k_aload_n E hl 0 dX2_begin_45 rfl ?_
  refine gf_X2_52 E hW 0 rfl rfl dX2_begin_46 ?_
  obtain ⟨y_10, hg, hf⟩ := ob hf
  obtain ⟨th_11, eth_11, hf⟩ := oL hf
  refine k_callVv (As := []) (rest := []) (ws2 := fun u => wCourt k a_th (sA th_9 11 (u))) (c_X6_clear n l k (fun j => a_th (3 + j)) (5 : Int32) 40 (th_9.2.1 11) y_10 hg) E vl_X2_68 dX2_begin_49 rfl [3, 4] 7 3 hW hA hl rfl rfl rfl rfl ⟨by decide, by decide⟩ ⟨by decide, by decide⟩ (Nat.le_of_ble_eq_true rfl) rfl (fun _ => rfl) (fun _ => rfl) (fun u H locs hp hW => ?_)
  cases hp
  have hW : WD k A s.heap (wCourt k a_th th_11) H locs := by rw [eth_11]; exact hW
  refine k_aload_n E hl 0 dX2_begin_52 rfl ?_
  refine gf_X2_39 E hW 0 rfl rfl dX2_begin_53 ?_
  refine lv_lconst (v := (0 : Int64)) E.hx E.hb dX2_begin_56 (by decide) ?_
  obtain ⟨y_12, hg, hf⟩ := ob hf
  obtain ⟨th_13, eth_13, hf⟩ := oL hf
  refine k_callSv (As := [.ref (a_th 1), .long (0 : Int64)]) (rest := []) (ws2 := fun u => wCourt k a_th (sL th_11 9 (u))) (c_J7_fill_d0a16 n l k (fun j => a_th (1 + j)) 251 (th_11.2.2.1 9) (0 : Int64) y_12 hg) E sl_X2_71 dX2_begin_57 rfl [1] hW hA hl rfl rfl ⟨by decide, by decide⟩ ⟨by decide, by decide⟩ (Nat.le_of_ble_eq_true rfl) rfl (fun _ => rfl) (fun _ => rfl) (fun u H locs hp hW => ?_)
  cases hp
  have hW : WD k A s.heap (wCourt k a_th th_13) H locs := by rw [eth_13]; exact hW
  refine lv_iconst (v := (0 : Int32)) E.hx E.hb dX2_begin_60 ic_0 ?_
  refine k_istore_n (lv' := [(2, .int (0 : Int32)), (0, .ref (a_th 0)), (1, .int v1_0)]) E rfl hl dX2_begin_61 rfl (by decide) rfl (fun ls hl => ?_)
  have L_62 : ∀ (N_62 : Nat) (th_j62 : OS) (w2_j62 : Int32) (H : Heap) (locs : List Loc) (ls : Array Slot) (hW : WD k A s.heap (wCourt k a_th th_j62) H locs) (hl : lv_has ls 3 [(0, .ref (a_th 0)), (1, .int v1_0), (2, .int w2_j62)]) (hf : l_X2_begin_62 n v1_0 N_62 th_j62 w2_j62 = some res), W p l e { frames := 2, cells := 0, slots := 0, locals := 43 } s m args below meth c H locs 0 0 Q (F0 m 62 ls []) := by
    intro N_62
    induction N_62 with
    | zero => intro th_j62 w2_j62 H locs ls hW hl hf; exact o0 hf
    | succ N_62 ih_62 =>
      intro th_j62 w2_j62 H locs ls hW hl hf
      have hf : s_X2_begin_62 n v1_0 (l_X2_begin_62 n v1_0 N_62) th_j62 w2_j62 = some res := hf
      unfold s_X2_begin_62 at hf
      refine k_iload_n E hl 2 dX2_begin_62 rfl ?_
      refine k_aload_n E hl 0 dX2_begin_63 rfl ?_
      refine gf_X2_43 E hW 0 rfl rfl dX2_begin_64 ?_
      refine k_alen (v := (64 : Int32)) E hW 2 0 rfl rfl on_64 dX2_begin_67 ?_
      refine lv_icmp_ge (tgt := 94) E.hx E.hb dX2_begin_68 (by decide) (fun hc => ?_) (fun hc => ?_)
      · have hf := oT hc hf
        exact hret th_j62 _ _ _ _ _ _ hW (Option.some.inj hf).symm (by decide) (by decide) dX2_begin_94
      · have hf := oF hc hf
        refine k_aload_n E hl 0 dX2_begin_71 rfl ?_
        refine gf_X2_43 E hW 0 rfl rfl dX2_begin_72 ?_
        refine k_iload_n E hl 2 dX2_begin_75 rfl ?_
        refine k_iload_n E hl 2 dX2_begin_76 rfl ?_
        refine k_iload_n E hl 1 dX2_begin_77 rfl ?_
        refine lv_icmp_ge (tgt := 85) E.hx E.hb dX2_begin_78 (by decide) (fun hc => ?_) (fun hc => ?_)
        · have hf := oT hc hf
          refine lv_bipush (v := (-2 : Int32)) E.hx E.hb dX2_begin_85 bp_m2 ?_
          obtain ⟨hin, hf⟩ := oI hf
          obtain ⟨th_14, eth_14, hf⟩ := oL hf
          refine k_iast (ws2 := wCourt k a_th th_14) E hW 2 rfl hin dX2_begin_87 (by rw [eth_14]; rfl) (fun H locs hW => ?_)
          obtain ⟨v2_15, ev2_15, hf⟩ := oL hf
          refine k_iinc (lv' := [(2, .int v2_15), (0, .ref (a_th 0)), (1, .int v1_0)]) E hl 2 dX2_begin_88 rfl (ev2_15.trans (congrArg (fun z => w2_j62 + z) ic_1.symm)) (by decide) rfl (fun ls hl => ?_)
          refine lv_goto (tgt := 62) E.hx E.hb dX2_begin_91 (by decide) ?_
          exact ih_62 th_14 v2_15 _ _ _ hW (lv_sub hl [1, 2, 0] rfl) hf
        · have hf := oF hc hf
          refine lv_iconst (v := (-1 : Int32)) E.hx E.hb dX2_begin_81 ic_m1 ?_
          refine lv_goto (tgt := 87) E.hx E.hb dX2_begin_82 (by decide) ?_
          obtain ⟨hin, hf⟩ := oI hf
          obtain ⟨th_16, eth_16, hf⟩ := oL hf
          refine k_iast (ws2 := wCourt k a_th th_16) E hW 2 rfl hin dX2_begin_87 (by rw [eth_16]; rfl) (fun H locs hW => ?_)
          obtain ⟨v2_17, ev2_17, hf⟩ := oL hf
          refine k_iinc (lv' := [(2, .int v2_17), (0, .ref (a_th 0)), (1, .int v1_0)]) E hl 2 dX2_begin_88 rfl (ev2_17.trans (congrArg (fun z => w2_j62 + z) ic_1.symm)) (by decide) rfl (fun ls hl => ?_)
          refine lv_goto (tgt := 62) E.hx E.hb dX2_begin_91 (by decide) ?_
          exact ih_62 th_16 v2_17 _ _ _ hW (lv_sub hl [1, 2, 0] rfl) hf
  exact L_62 n th_13 (0 : Int32) _ _ _ hW (lv_sub hl [1, 2, 0] rfl) hf
def f_X2_copyFrom (n : Nat) (th_0 : OS) (p1_0 : OS) : Option (OS) :=
  Let (sI th_0 0 (p1_0.1 0)) (fun th_1 : OS =>
  Let (sI th_1 1 (p1_0.1 1)) (fun th_2 : OS =>
  Let (sI th_2 2 (p1_0.1 2)) (fun th_3 : OS =>
  Let (sI th_3 3 (p1_0.1 3)) (fun th_4 : OS =>
  Let (sI th_4 4 (p1_0.1 4)) (fun th_5 : OS =>
  Let (sI th_5 5 (p1_0.1 5)) (fun th_6 : OS =>
  Let (sI th_6 6 (p1_0.1 6)) (fun th_7 : OS =>
  Let (sI th_7 7 (p1_0.1 7)) (fun th_8 : OS =>
  Let (sI th_8 8 (p1_0.1 8)) (fun th_9 : OS =>
  oN ((0 : Int32) < 0 ∨ (0 : Int32) < 0 ∨ (64 : Int32) < 0 ∨ 64 < (0 : Int32).toNatClampNeg + (64 : Int32).toNatClampNeg ∨ 64 < (0 : Int32).toNatClampNeg + (64 : Int32).toNatClampNeg) (Let (sA th_9 10 (va_cpy (p1_0.2.1 10) (th_9.2.1 10) (0 : Int32).toNatClampNeg (0 : Int32).toNatClampNeg (64 : Int32).toNatClampNeg)) (fun th_10 : OS =>
  oN ((0 : Int32) < 0 ∨ (0 : Int32) < 0 ∨ (251 : Int32) < 0 ∨ 251 < (0 : Int32).toNatClampNeg + (251 : Int32).toNatClampNeg ∨ 251 < (0 : Int32).toNatClampNeg + (251 : Int32).toNatClampNeg) (Let (sL th_10 9 (va_cpy (p1_0.2.2.1 9) (th_10.2.2.1 9) (0 : Int32).toNatClampNeg (0 : Int32).toNatClampNeg (251 : Int32).toNatClampNeg)) (fun th_11 : OS =>
  bnd (f_X6_copyFrom n (5 : Int32) 40 (th_11.2.1 11) (5 : Int32) 40 (p1_0.2.1 11)) (fun (y_12 : Nat → Int32) =>
  Let (sA th_11 11 y_12) (fun th_13 : OS =>
  bnd (f_X6_copyFrom n (8 : Int32) 640 (th_13.2.1 12) (8 : Int32) 640 (p1_0.2.1 12)) (fun (y_14 : Nat → Int32) =>
  Let (sA th_13 12 y_14) (fun th_15 : OS =>
  bnd (f_X6_copyFrom n (7 : Int32) 420 (th_15.2.1 13) (7 : Int32) 420 (p1_0.2.1 13)) (fun (y_16 : Nat → Int32) =>
  Let (sA th_15 13 y_16) (fun th_17 : OS =>
  bnd (f_X6_copyFrom n (8 : Int32) 320 (th_17.2.1 14) (8 : Int32) 320 (p1_0.2.1 14)) (fun (y_18 : Nat → Int32) =>
  Let (sA th_17 14 y_18) (fun th_19 : OS =>
  some th_19)))))))))))))))))))))
set_option maxHeartbeats 4000000 in
set_option maxRecDepth 100000 in
theorem c_X2_copyFrom (n : Nat) (l : Launch) (k : KT) (a_th : Nat → Nat) (a_p1 : Nat → Nat) (th_0 : OS) (p1_0 : OS) (res : (OS)) (hf : f_X2_copyFrom n th_0 p1_0 = some res) : CG l k yX2_copyFrom cX2_copyFrom 2 none 2 0 0 47 [.ref (a_th 0), .ref (a_p1 0)] (wCourt k a_th th_0 ++ wCourt k a_p1 p1_0) (Qv k (fun u : OS => wCourt k a_th u ++ wCourt k a_p1 p1_0) (fun u : OS => res = u)) := by
  refine CG.ofV (by decide) (Nat.le_of_ble_eq_true rfl) (fun p e s m args below meth c A Q E hnm hW hA hret ls hl => ?_)
  have hl : lv_has ls 2 [(0, .ref (a_th 0)), (1, .ref (a_p1 0))] := hl
  unfold f_X2_copyFrom at hf
  refine k_aload_n E hl 0 dX2_copyFrom_0 rfl ?_
  refine k_aload_n E hl 1 dX2_copyFrom_1 rfl ?_
  refine gf_X2_9 E hW 12 rfl rfl dX2_copyFrom_2 ?_
  obtain ⟨th_1, eth_1, hf⟩ := oL hf
  refine pf_X2_9 (ws2 := wCourt k a_th th_1 ++ wCourt k a_p1 p1_0) E hW 0 rfl rfl rfl (Nat.le_of_ble_eq_true rfl) dX2_copyFrom_5 (by rw [eth_1]; rfl) (fun H locs hW => ?_)
  refine k_aload_n E hl 0 dX2_copyFrom_8 rfl ?_
  refine k_aload_n E hl 1 dX2_copyFrom_9 rfl ?_
  refine gf_X2_15 E hW 12 rfl rfl dX2_copyFrom_10 ?_
  obtain ⟨th_2, eth_2, hf⟩ := oL hf
  refine pf_X2_15 (ws2 := wCourt k a_th th_2 ++ wCourt k a_p1 p1_0) E hW 0 rfl rfl rfl (Nat.le_of_ble_eq_true rfl) dX2_copyFrom_13 (by rw [eth_2]; rfl) (fun H locs hW => ?_)
  refine k_aload_n E hl 0 dX2_copyFrom_16 rfl ?_
  refine k_aload_n E hl 1 dX2_copyFrom_17 rfl ?_
  refine gf_X2_18 E hW 12 rfl rfl dX2_copyFrom_18 ?_
  obtain ⟨th_3, eth_3, hf⟩ := oL hf
  refine pf_X2_18 (ws2 := wCourt k a_th th_3 ++ wCourt k a_p1 p1_0) E hW 0 rfl rfl rfl (Nat.le_of_ble_eq_true rfl) dX2_copyFrom_21 (by rw [eth_3]; rfl) (fun H locs hW => ?_)
  refine k_aload_n E hl 0 dX2_copyFrom_24 rfl ?_
  refine k_aload_n E hl 1 dX2_copyFrom_25 rfl ?_
  refine gf_X2_21 E hW 12 rfl rfl dX2_copyFrom_26 ?_
  obtain ⟨th_4, eth_4, hf⟩ := oL hf
  refine pf_X2_21 (ws2 := wCourt k a_th th_4 ++ wCourt k a_p1 p1_0) E hW 0 rfl rfl rfl (Nat.le_of_ble_eq_true rfl) dX2_copyFrom_29 (by rw [eth_4]; rfl) (fun H locs hW => ?_)
  refine k_aload_n E hl 0 dX2_copyFrom_32 rfl ?_
  refine k_aload_n E hl 1 dX2_copyFrom_33 rfl ?_
  refine gf_X2_24 E hW 12 rfl rfl dX2_copyFrom_34 ?_
  obtain ⟨th_5, eth_5, hf⟩ := oL hf
  refine pf_X2_24 (ws2 := wCourt k a_th th_5 ++ wCourt k a_p1 p1_0) E hW 0 rfl rfl rfl (Nat.le_of_ble_eq_true rfl) dX2_copyFrom_37 (by rw [eth_5]; rfl) (fun H locs hW => ?_)
  refine k_aload_n E hl 0 dX2_copyFrom_40 rfl ?_
  refine k_aload_n E hl 1 dX2_copyFrom_41 rfl ?_
  refine gf_X2_27 E hW 12 rfl rfl dX2_copyFrom_42 ?_
  obtain ⟨th_6, eth_6, hf⟩ := oL hf
  refine pf_X2_27 (ws2 := wCourt k a_th th_6 ++ wCourt k a_p1 p1_0) E hW 0 rfl rfl rfl (Nat.le_of_ble_eq_true rfl) dX2_copyFrom_45 (by rw [eth_6]; rfl) (fun H locs hW => ?_)
  refine k_aload_n E hl 0 dX2_copyFrom_48 rfl ?_
  refine k_aload_n E hl 1 dX2_copyFrom_49 rfl ?_
  refine gf_X2_30 E hW 12 rfl rfl dX2_copyFrom_50 ?_
  obtain ⟨th_7, eth_7, hf⟩ := oL hf
  refine pf_X2_30 (ws2 := wCourt k a_th th_7 ++ wCourt k a_p1 p1_0) E hW 0 rfl rfl rfl (Nat.le_of_ble_eq_true rfl) dX2_copyFrom_53 (by rw [eth_7]; rfl) (fun H locs hW => ?_)
  refine k_aload_n E hl 0 dX2_copyFrom_56 rfl ?_
  refine k_aload_n E hl 1 dX2_copyFrom_57 rfl ?_
  refine gf_X2_33 E hW 12 rfl rfl dX2_copyFrom_58 ?_
  obtain ⟨th_8, eth_8, hf⟩ := oL hf
  refine pf_X2_33 (ws2 := wCourt k a_th th_8 ++ wCourt k a_p1 p1_0) E hW 0 rfl rfl rfl (Nat.le_of_ble_eq_true rfl) dX2_copyFrom_61 (by rw [eth_8]; rfl) (fun H locs hW => ?_)
  refine k_aload_n E hl 0 dX2_copyFrom_64 rfl ?_
  refine k_aload_n E hl 1 dX2_copyFrom_65 rfl ?_
  refine gf_X2_36 E hW 12 rfl rfl dX2_copyFrom_66 ?_
  obtain ⟨th_9, eth_9, hf⟩ := oL hf
  refine pf_X2_36 (ws2 := wCourt k a_th th_9 ++ wCourt k a_p1 p1_0) E hW 0 rfl rfl rfl (Nat.le_of_ble_eq_true rfl) dX2_copyFrom_69 (by rw [eth_9]; rfl) (fun H locs hW => ?_)
  refine k_aload_n E hl 1 dX2_copyFrom_72 rfl ?_
  refine gf_X2_43 E hW 12 rfl rfl dX2_copyFrom_73 ?_
  refine lv_iconst (v := (0 : Int32)) E.hx E.hb dX2_copyFrom_76 ic_0 ?_
  refine k_aload_n E hl 0 dX2_copyFrom_77 rfl ?_
  refine gf_X2_43 E hW 0 rfl rfl dX2_copyFrom_78 ?_
  refine lv_iconst (v := (0 : Int32)) E.hx E.hb dX2_copyFrom_81 ic_0 ?_
  refine k_aload_n E hl 0 dX2_copyFrom_82 rfl ?_
  refine gf_X2_43 E hW 0 rfl rfl dX2_copyFrom_83 ?_
  refine k_alen (v := (64 : Int32)) E hW 2 0 rfl rfl on_64 dX2_copyFrom_86 ?_
  obtain ⟨hz, hf⟩ := oG hf
  obtain ⟨th_10, eth_10, hf⟩ := oL hf
  refine va_copyi E.hx E.hb (E.hml.trans hl.1.symm) E.ho (E.w tm_529 rfl) (E.w tm_531 rfl) (E.w tm_530 rfl) (E.w tm_49 rfl) E.hK hW.1 hW.2.1 hW.2.2 14 2 0 0 rfl rfl rfl rfl rfl (fun h => hz (Or.inl h)) (fun h => hz (Or.inr (Or.inl h))) (fun h => hz (Or.inr (Or.inr (Or.inl h)))) (Nat.le_of_not_lt (fun h => hz (Or.inr (Or.inr (Or.inr (Or.inl h)))))) (Nat.le_of_not_lt (fun h => hz (Or.inr (Or.inr (Or.inr (Or.inr h)))))) (fun _ _ => rfl) (by decide) (Nat.le_of_ble_eq_true rfl) dX2_copyFrom_87 (fun H locs h1 h2 h3 => ?_)
  have hW : WD k A s.heap (wCourt k a_th th_10 ++ wCourt k a_p1 p1_0) H locs := by rw [eth_10]; exact ⟨h1, h2, h3⟩
  refine k_aload_n E hl 1 dX2_copyFrom_90 rfl ?_
  refine gf_X2_39 E hW 12 rfl rfl dX2_copyFrom_91 ?_
  refine lv_iconst (v := (0 : Int32)) E.hx E.hb dX2_copyFrom_94 ic_0 ?_
  refine k_aload_n E hl 0 dX2_copyFrom_95 rfl ?_
  refine gf_X2_39 E hW 0 rfl rfl dX2_copyFrom_96 ?_
  refine lv_iconst (v := (0 : Int32)) E.hx E.hb dX2_copyFrom_99 ic_0 ?_
  refine k_aload_n E hl 0 dX2_copyFrom_100 rfl ?_
  refine gf_X2_39 E hW 0 rfl rfl dX2_copyFrom_101 ?_
  refine k_alen (v := (251 : Int32)) E hW 1 1 rfl rfl on_251 dX2_copyFrom_104 ?_
  obtain ⟨hz, hf⟩ := oG hf
  obtain ⟨th_11, eth_11, hf⟩ := oL hf
  refine va_copyl E.hx E.hb (E.hml.trans hl.1.symm) E.ho (E.w tm_529 rfl) (E.w tm_531 rfl) (E.w tm_530 rfl) (E.w tm_49 rfl) E.hK hW.1 hW.2.1 hW.2.2 13 1 1 1 rfl rfl rfl rfl rfl (fun h => hz (Or.inl h)) (fun h => hz (Or.inr (Or.inl h))) (fun h => hz (Or.inr (Or.inr (Or.inl h)))) (Nat.le_of_not_lt (fun h => hz (Or.inr (Or.inr (Or.inr (Or.inl h)))))) (Nat.le_of_not_lt (fun h => hz (Or.inr (Or.inr (Or.inr (Or.inr h)))))) (fun _ _ => rfl) (by decide) (Nat.le_of_ble_eq_true rfl) dX2_copyFrom_105 (fun H locs h1 h2 h3 => ?_)
  have hW : WD k A s.heap (wCourt k a_th th_11 ++ wCourt k a_p1 p1_0) H locs := by rw [eth_11]; exact ⟨h1, h2, h3⟩
  refine k_aload_n E hl 0 dX2_copyFrom_108 rfl ?_
  refine gf_X2_52 E hW 0 rfl rfl dX2_copyFrom_109 ?_
  refine k_aload_n E hl 1 dX2_copyFrom_112 rfl ?_
  refine gf_X2_52 E hW 12 rfl rfl dX2_copyFrom_113 ?_
  obtain ⟨y_12, hg, hf⟩ := ob hf
  obtain ⟨th_13, eth_13, hf⟩ := oL hf
  refine k_callVv (As := [.ref (a_p1 3)]) (rest := []) (ws2 := fun u => wCourt k a_th (sA th_11 11 (u)) ++ wCourt k a_p1 p1_0) (c_X6_copyFrom n l k (fun j => a_th (3 + j)) (fun j => a_p1 (3 + j)) (5 : Int32) 40 (th_11.2.1 11) (5 : Int32) 40 (p1_0.2.1 11) y_12 hg) E vl_X2_83 dX2_copyFrom_116 rfl [3, 4, 15, 16] 7 3 hW hA hl rfl rfl rfl rfl ⟨by decide, by decide⟩ ⟨by decide, by decide⟩ (Nat.le_of_ble_eq_true rfl) rfl (fun _ => rfl) (fun _ => rfl) (fun u H locs hp hW => ?_)
  cases hp
  have hW : WD k A s.heap (wCourt k a_th th_13 ++ wCourt k a_p1 p1_0) H locs := by rw [eth_13]; exact hW
  refine k_aload_n E hl 0 dX2_copyFrom_119 rfl ?_
  refine gf_X2_56 E hW 0 rfl rfl dX2_copyFrom_120 ?_
  refine k_aload_n E hl 1 dX2_copyFrom_123 rfl ?_
  refine gf_X2_56 E hW 12 rfl rfl dX2_copyFrom_124 ?_
  obtain ⟨y_14, hg, hf⟩ := ob hf
  obtain ⟨th_15, eth_15, hf⟩ := oL hf
  refine k_callVv (As := [.ref (a_p1 5)]) (rest := []) (ws2 := fun u => wCourt k a_th (sA th_13 12 (u)) ++ wCourt k a_p1 p1_0) (c_X6_copyFrom n l k (fun j => a_th (5 + j)) (fun j => a_p1 (5 + j)) (8 : Int32) 640 (th_13.2.1 12) (8 : Int32) 640 (p1_0.2.1 12) y_14 hg) E vl_X2_83 dX2_copyFrom_127 rfl [5, 6, 17, 18] 7 5 hW hA hl rfl rfl rfl rfl ⟨by decide, by decide⟩ ⟨by decide, by decide⟩ (Nat.le_of_ble_eq_true rfl) rfl (fun _ => rfl) (fun _ => rfl) (fun u H locs hp hW => ?_)
  cases hp
  have hW : WD k A s.heap (wCourt k a_th th_15 ++ wCourt k a_p1 p1_0) H locs := by rw [eth_15]; exact hW
  refine k_aload_n E hl 0 dX2_copyFrom_130 rfl ?_
  refine gf_X2_59 E hW 0 rfl rfl dX2_copyFrom_131 ?_
  refine k_aload_n E hl 1 dX2_copyFrom_134 rfl ?_
  refine gf_X2_59 E hW 12 rfl rfl dX2_copyFrom_135 ?_
  obtain ⟨y_16, hg, hf⟩ := ob hf
  obtain ⟨th_17, eth_17, hf⟩ := oL hf
  refine k_callVv (As := [.ref (a_p1 7)]) (rest := []) (ws2 := fun u => wCourt k a_th (sA th_15 13 (u)) ++ wCourt k a_p1 p1_0) (c_X6_copyFrom n l k (fun j => a_th (7 + j)) (fun j => a_p1 (7 + j)) (7 : Int32) 420 (th_15.2.1 13) (7 : Int32) 420 (p1_0.2.1 13) y_16 hg) E vl_X2_83 dX2_copyFrom_138 rfl [7, 8, 19, 20] 7 7 hW hA hl rfl rfl rfl rfl ⟨by decide, by decide⟩ ⟨by decide, by decide⟩ (Nat.le_of_ble_eq_true rfl) rfl (fun _ => rfl) (fun _ => rfl) (fun u H locs hp hW => ?_)
  cases hp
  have hW : WD k A s.heap (wCourt k a_th th_17 ++ wCourt k a_p1 p1_0) H locs := by rw [eth_17]; exact hW
  refine k_aload_n E hl 0 dX2_copyFrom_141 rfl ?_
  refine gf_X2_62 E hW 0 rfl rfl dX2_copyFrom_142 ?_
  refine k_aload_n E hl 1 dX2_copyFrom_145 rfl ?_
  refine gf_X2_62 E hW 12 rfl rfl dX2_copyFrom_146 ?_
  obtain ⟨y_18, hg, hf⟩ := ob hf
  obtain ⟨th_19, eth_19, hf⟩ := oL hf
  refine k_callVv (As := [.ref (a_p1 9)]) (rest := []) (ws2 := fun u => wCourt k a_th (sA th_17 14 (u)) ++ wCourt k a_p1 p1_0) (c_X6_copyFrom n l k (fun j => a_th (9 + j)) (fun j => a_p1 (9 + j)) (8 : Int32) 320 (th_17.2.1 14) (8 : Int32) 320 (p1_0.2.1 14) y_18 hg) E vl_X2_83 dX2_copyFrom_149 rfl [9, 10, 21, 22] 7 9 hW hA hl rfl rfl rfl rfl ⟨by decide, by decide⟩ ⟨by decide, by decide⟩ (Nat.le_of_ble_eq_true rfl) rfl (fun _ => rfl) (fun _ => rfl) (fun u H locs hp hW => ?_)
  cases hp
  have hW : WD k A s.heap (wCourt k a_th th_19 ++ wCourt k a_p1 p1_0) H locs := by rw [eth_19]; exact hW
  exact hret th_19 _ _ _ _ _ _ hW (Option.some.inj hf).symm (by decide) (by decide) dX2_copyFrom_152
def f_X2_loanOf (n : Nat) (th_0 : OS) (v1_0 : Int32) : Option (Int32) :=
  if v1_0 < 0 then (
  some (-1 : Int32)) else (
  if (64 : Int32) ≤ v1_0 then (
  some (-1 : Int32)) else (
  gI 64 v1_0 (Let ((th_0.2.1 10) v1_0.toNatClampNeg) (fun x_1 : Int32 =>
  some x_1))))
set_option maxHeartbeats 4000000 in
set_option maxRecDepth 100000 in
theorem c_X2_loanOf (n : Nat) (l : Launch) (k : KT) (a_th : Nat → Nat) (th_0 : OS) (v1_0 : Int32) (res : (Int32)) (hf : f_X2_loanOf n th_0 v1_0 = some res) : CG l k yX2_loanOf cX2_loanOf 2 (some .int) 0 0 0 0 [.ref (a_th 0), .int v1_0] (wCourt k a_th th_0) (Qi k (fun u : Unit => wCourt k a_th th_0) (fun (r : Int32) (u : Unit) => res = r)) := by
  refine CG.ofI (by decide) (Nat.le_of_ble_eq_true rfl) (fun p e s m args below meth c A Q E hnm hW hA hret ls hl => ?_)
  have hl : lv_has ls 2 [(0, .ref (a_th 0)), (1, .int v1_0)] := hl
  unfold f_X2_loanOf at hf
  refine k_iload_n E hl 1 dX2_loanOf_0 rfl ?_
  refine lv_if_lt (tgt := 22) E.hx E.hb dX2_loanOf_1 (by decide) (fun hc => ?_) (fun hc => ?_)
  · have hf := oT hc hf
    refine lv_iconst (v := (-1 : Int32)) E.hx E.hb dX2_loanOf_22 ic_m1 ?_
    exact hret _ () _ _ _ _ _ _ hW (Option.some.inj hf).symm rfl (by decide) (by decide) dX2_loanOf_23
  · have hf := oF hc hf
    refine k_iload_n E hl 1 dX2_loanOf_4 rfl ?_
    refine k_aload_n E hl 0 dX2_loanOf_5 rfl ?_
    refine gf_X2_43 E hW 0 rfl rfl dX2_loanOf_6 ?_
    refine k_alen (v := (64 : Int32)) E hW 2 0 rfl rfl on_64 dX2_loanOf_9 ?_
    refine lv_icmp_ge (tgt := 22) E.hx E.hb dX2_loanOf_10 (by decide) (fun hc => ?_) (fun hc => ?_)
    · have hf := oT hc hf
      refine lv_iconst (v := (-1 : Int32)) E.hx E.hb dX2_loanOf_22 ic_m1 ?_
      exact hret _ () _ _ _ _ _ _ hW (Option.some.inj hf).symm rfl (by decide) (by decide) dX2_loanOf_23
    · have hf := oF hc hf
      refine k_aload_n E hl 0 dX2_loanOf_13 rfl ?_
      refine gf_X2_43 E hW 0 rfl rfl dX2_loanOf_14 ?_
      refine k_iload_n E hl 1 dX2_loanOf_17 rfl ?_
      obtain ⟨hin, hf⟩ := oI hf
      obtain ⟨x_1, ex_1, hf⟩ := oL hf
      refine k_iald E hW 2 rfl hin dX2_loanOf_18 ?_
      refine k_topi ex_1 ?_
      refine lv_goto (tgt := 23) E.hx E.hb dX2_loanOf_19 (by decide) ?_
      exact hret _ () _ _ _ _ _ _ hW (Option.some.inj hf).symm rfl (by decide) (by decide) dX2_loanOf_23
def s_X2_pageAt_5 (n : Nat) (th_0 : OS) (w1_j5 : Int32) (w2_j5 : Int32) (rc_5 : (Int32) → (Int32) → Option (Int32)) (w3_j5 : Int32) (w4_j5 : Int32) : Option (Int32) :=
  if (64 : Int32) ≤ w4_j5 then (
  some (-1 : Int32)) else (
  gI 64 w4_j5 (Let ((th_0.2.1 10) w4_j5.toNatClampNeg) (fun x_1 : Int32 =>
  if x_1 = w1_j5 then (
  if w3_j5 = w2_j5 then (
  some w4_j5) else (
  Let (w3_j5 + (1 : Int32)) (fun v3_3 : Int32 =>
  Let (w4_j5 + (1 : Int32)) (fun v4_4 : Int32 =>
  rc_5 v3_3 v4_4)))) else (
  Let (w4_j5 + (1 : Int32)) (fun v4_2 : Int32 =>
  rc_5 w3_j5 v4_2)))))
def l_X2_pageAt_5 (n : Nat) (th_0 : OS) (w1_j5 : Int32) (w2_j5 : Int32) : Nat → (Int32) → (Int32) → Option (Int32)
  | 0 => fun _ _ => none
  | N + 1 => s_X2_pageAt_5 n th_0 w1_j5 w2_j5 (l_X2_pageAt_5 n th_0 w1_j5 w2_j5 N)
def f_X2_pageAt (n : Nat) (th_0 : OS) (v1_0 : Int32) (v2_0 : Int32) : Option (Int32) :=
  l_X2_pageAt_5 n th_0 v1_0 v2_0 n (0 : Int32) (0 : Int32)
set_option maxHeartbeats 4000000 in
set_option maxRecDepth 100000 in
theorem c_X2_pageAt (n : Nat) (l : Launch) (k : KT) (a_th : Nat → Nat) (th_0 : OS) (v1_0 : Int32) (v2_0 : Int32) (res : (Int32)) (hf : f_X2_pageAt n th_0 v1_0 v2_0 = some res) : CG l k yX2_pageAt cX2_pageAt 5 (some .int) 0 0 0 0 [.ref (a_th 0), .int v1_0, .int v2_0] (wCourt k a_th th_0) (Qi k (fun u : Unit => wCourt k a_th th_0) (fun (r : Int32) (u : Unit) => res = r)) := by
  refine CG.ofI (by decide) (Nat.le_of_ble_eq_true rfl) (fun p e s m args below meth c A Q E hnm hW hA hret ls hl => ?_)
  have hl : lv_has ls 5 [(0, .ref (a_th 0)), (1, .int v1_0), (2, .int v2_0)] := hl
  unfold f_X2_pageAt at hf
  refine lv_iconst (v := (0 : Int32)) E.hx E.hb dX2_pageAt_0 ic_0 ?_
  refine k_istore_n (lv' := [(3, .int (0 : Int32)), (0, .ref (a_th 0)), (1, .int v1_0), (2, .int v2_0)]) E rfl hl dX2_pageAt_1 rfl (by decide) rfl (fun ls hl => ?_)
  refine lv_iconst (v := (0 : Int32)) E.hx E.hb dX2_pageAt_2 ic_0 ?_
  refine k_istore (lv' := [(4, .int (0 : Int32)), (3, .int (0 : Int32)), (0, .ref (a_th 0)), (1, .int v1_0), (2, .int v2_0)]) E rfl hl dX2_pageAt_3 (by decide) rfl (fun ls hl => ?_)
  have L_5 : ∀ (N_5 : Nat) (w3_j5 : Int32) (w4_j5 : Int32) (H : Heap) (locs : List Loc) (ls : Array Slot) (hW : WD k A s.heap (wCourt k a_th th_0) H locs) (hl : lv_has ls 5 [(0, .ref (a_th 0)), (1, .int v1_0), (2, .int v2_0), (3, .int w3_j5), (4, .int w4_j5)]) (hf : l_X2_pageAt_5 n th_0 v1_0 v2_0 N_5 w3_j5 w4_j5 = some res), W p l e { frames := 0, cells := 0, slots := 0, locals := 0 } s m args below meth c H locs 0 0 Q (F0 m 5 ls []) := by
    intro N_5
    induction N_5 with
    | zero => intro w3_j5 w4_j5 H locs ls hW hl hf; exact o0 hf
    | succ N_5 ih_5 =>
      intro w3_j5 w4_j5 H locs ls hW hl hf
      have hf : s_X2_pageAt_5 n th_0 v1_0 v2_0 (l_X2_pageAt_5 n th_0 v1_0 v2_0 N_5) w3_j5 w4_j5 = some res := hf
      unfold s_X2_pageAt_5 at hf
      refine k_iload E hl 4 dX2_pageAt_5 rfl ?_
      refine k_aload_n E hl 0 dX2_pageAt_7 rfl ?_
      refine gf_X2_43 E hW 0 rfl rfl dX2_pageAt_8 ?_
      refine k_alen (v := (64 : Int32)) E hW 2 0 rfl rfl on_64 dX2_pageAt_11 ?_
      refine lv_icmp_ge (tgt := 43) E.hx E.hb dX2_pageAt_12 (by decide) (fun hc => ?_) (fun hc => ?_)
      · have hf := oT hc hf
        refine lv_iconst (v := (-1 : Int32)) E.hx E.hb dX2_pageAt_43 ic_m1 ?_
        exact hret _ () _ _ _ _ _ _ hW (Option.some.inj hf).symm rfl (by decide) (by decide) dX2_pageAt_44
      · have hf := oF hc hf
        refine k_aload_n E hl 0 dX2_pageAt_15 rfl ?_
        refine gf_X2_43 E hW 0 rfl rfl dX2_pageAt_16 ?_
        refine k_iload E hl 4 dX2_pageAt_19 rfl ?_
        obtain ⟨hin, hf⟩ := oI hf
        obtain ⟨x_1, ex_1, hf⟩ := oL hf
        refine k_iald E hW 2 rfl hin dX2_pageAt_21 ?_
        refine k_topi ex_1 ?_
        refine k_iload_n E hl 1 dX2_pageAt_22 rfl ?_
        refine lv_icmp_ne (tgt := 37) E.hx E.hb dX2_pageAt_23 (by decide) (fun hc => ?_) (fun hc => ?_)
        · have hf := oF hc hf
          obtain ⟨v4_2, ev4_2, hf⟩ := oL hf
          refine k_iinc (lv' := [(4, .int v4_2), (0, .ref (a_th 0)), (1, .int v1_0), (2, .int v2_0), (3, .int w3_j5)]) E hl 4 dX2_pageAt_37 rfl (ev4_2.trans (congrArg (fun z => w4_j5 + z) ic_1.symm)) (by decide) rfl (fun ls hl => ?_)
          refine lv_goto (tgt := 5) E.hx E.hb dX2_pageAt_40 (by decide) ?_
          exact ih_5 w3_j5 v4_2 _ _ _ hW (lv_sub hl [1, 2, 3, 4, 0] rfl) hf
        · have hf := oT hc hf
          refine k_iload_n E hl 3 dX2_pageAt_26 rfl ?_
          refine k_iload_n E hl 2 dX2_pageAt_27 rfl ?_
          refine lv_icmp_ne (tgt := 34) E.hx E.hb dX2_pageAt_28 (by decide) (fun hc => ?_) (fun hc => ?_)
          · have hf := oF hc hf
            obtain ⟨v3_3, ev3_3, hf⟩ := oL hf
            refine k_iinc (lv' := [(3, .int v3_3), (0, .ref (a_th 0)), (1, .int v1_0), (2, .int v2_0), (4, .int w4_j5)]) E hl 3 dX2_pageAt_34 rfl (ev3_3.trans (congrArg (fun z => w3_j5 + z) ic_1.symm)) (by decide) rfl (fun ls hl => ?_)
            obtain ⟨v4_4, ev4_4, hf⟩ := oL hf
            refine k_iinc (lv' := [(4, .int v4_4), (3, .int v3_3), (0, .ref (a_th 0)), (1, .int v1_0), (2, .int v2_0)]) E hl 4 dX2_pageAt_37 rfl (ev4_4.trans (congrArg (fun z => w4_j5 + z) ic_1.symm)) (by decide) rfl (fun ls hl => ?_)
            refine lv_goto (tgt := 5) E.hx E.hb dX2_pageAt_40 (by decide) ?_
            exact ih_5 v3_3 v4_4 _ _ _ hW (lv_sub hl [2, 3, 4, 1, 0] rfl) hf
          · have hf := oT hc hf
            refine k_iload E hl 4 dX2_pageAt_31 rfl ?_
            exact hret _ () _ _ _ _ _ _ hW (Option.some.inj hf).symm rfl (by decide) (by decide) dX2_pageAt_33
  exact L_5 n (0 : Int32) (0 : Int32) _ _ _ hW (lv_sub hl [2, 3, 4, 1, 0] rfl) hf
def j_X2_rowsOf_45 (n : Nat) (th_0 : OS) (w1_j18 : Int32) (w5_j18 : Int32) (rc_18 : (Int32) → (Int32) → (Int32) → Option (Int32)) (w2_j45 : Int32) (w6_j45 : Int32) (w7_j45 : Int32) : Option (Int32) :=
  if w7_j45 = w1_j18 then (
  Let (w6_j45 + (1 : Int32)) (fun v6_3 : Int32 =>
  rc_18 w2_j45 (1 : Int32) v6_3)) else (
  Let (w6_j45 + (1 : Int32)) (fun v6_2 : Int32 =>
  rc_18 w2_j45 (0 : Int32) v6_2))
def s_X2_rowsOf_18 (n : Nat) (th_0 : OS) (w1_j18 : Int32) (w5_j18 : Int32) (rc_18 : (Int32) → (Int32) → (Int32) → Option (Int32)) (w2_j18 : Int32) (w3_j18 : Int32) (w6_j18 : Int32) : Option (Int32) :=
  if w5_j18 ≤ w6_j18 then (
  some w2_j18) else (
  gI 64 w6_j18 (Let ((th_0.2.1 10) w6_j18.toNatClampNeg) (fun x_1 : Int32 =>
  if x_1 = w1_j18 then (
  if w3_j18 = 0 then (
  Let (w2_j18 + (1 : Int32)) (fun v2_4 : Int32 =>
  j_X2_rowsOf_45 n th_0 w1_j18 w5_j18 rc_18 v2_4 w6_j18 x_1)) else (
  j_X2_rowsOf_45 n th_0 w1_j18 w5_j18 rc_18 w2_j18 w6_j18 x_1)) else (
  j_X2_rowsOf_45 n th_0 w1_j18 w5_j18 rc_18 w2_j18 w6_j18 x_1))))
def l_X2_rowsOf_18 (n : Nat) (th_0 : OS) (w1_j18 : Int32) (w5_j18 : Int32) : Nat → (Int32) → (Int32) → (Int32) → Option (Int32)
  | 0 => fun _ _ _ => none
  | N + 1 => s_X2_rowsOf_18 n th_0 w1_j18 w5_j18 (l_X2_rowsOf_18 n th_0 w1_j18 w5_j18 N)
def f_X2_rowsOf (n : Nat) (th_0 : OS) (v1_0 : Int32) : Option (Int32) :=
  l_X2_rowsOf_18 n th_0 v1_0 (64 : Int32) n (0 : Int32) (0 : Int32) (0 : Int32)
set_option maxHeartbeats 4000000 in
set_option maxRecDepth 100000 in
theorem c_X2_rowsOf (n : Nat) (l : Launch) (k : KT) (a_th : Nat → Nat) (th_0 : OS) (v1_0 : Int32) (res : (Int32)) (hf : f_X2_rowsOf n th_0 v1_0 = some res) : CG l k yX2_rowsOf cX2_rowsOf 8 (some .int) 0 0 0 0 [.ref (a_th 0), .int v1_0] (wCourt k a_th th_0) (Qi k (fun u : Unit => wCourt k a_th th_0) (fun (r : Int32) (u : Unit) => res = r)) := by
  refine CG.ofI (by decide) (Nat.le_of_ble_eq_true rfl) (fun p e s m args below meth c A Q E hnm hW hA hret ls hl => ?_)
  have hl : lv_has ls 8 [(0, .ref (a_th 0)), (1, .int v1_0)] := hl
  unfold f_X2_rowsOf at hf
  refine lv_iconst (v := (0 : Int32)) E.hx E.hb dX2_rowsOf_0 ic_0 ?_
  refine k_istore_n (lv' := [(2, .int (0 : Int32)), (0, .ref (a_th 0)), (1, .int v1_0)]) E rfl hl dX2_rowsOf_1 rfl (by decide) rfl (fun ls hl => ?_)
  refine lv_iconst (v := (0 : Int32)) E.hx E.hb dX2_rowsOf_2 ic_0 ?_
  refine k_istore_n (lv' := [(3, .int (0 : Int32)), (2, .int (0 : Int32)), (0, .ref (a_th 0)), (1, .int v1_0)]) E rfl hl dX2_rowsOf_3 rfl (by decide) rfl (fun ls hl => ?_)
  refine k_aload_n E hl 2 dX2_rowsOf_4 rfl ?_
  refine gf_X2_43 E hW 0 rfl rfl dX2_rowsOf_5 ?_
  refine lv_astore (lv' := [(4, .ref (a_th 2)), (3, .int (0 : Int32)), (2, .int (0 : Int32)), (0, .ref (a_th 0)), (1, .int v1_0)]) E.hx E.hb dX2_rowsOf_8 hl (by decide) rfl (fun ls hl => ?_)
  refine k_aload E hl 0 dX2_rowsOf_10 rfl ?_
  refine k_alen (v := (64 : Int32)) E hW 2 0 rfl rfl on_64 dX2_rowsOf_12 ?_
  refine k_istore (lv' := [(5, .int (64 : Int32)), (4, .ref (a_th 2)), (3, .int (0 : Int32)), (2, .int (0 : Int32)), (0, .ref (a_th 0)), (1, .int v1_0)]) E rfl hl dX2_rowsOf_13 (by decide) rfl (fun ls hl => ?_)
  refine lv_iconst (v := (0 : Int32)) E.hx E.hb dX2_rowsOf_15 ic_0 ?_
  refine k_istore (lv' := [(6, .int (0 : Int32)), (5, .int (64 : Int32)), (4, .ref (a_th 2)), (3, .int (0 : Int32)), (2, .int (0 : Int32)), (0, .ref (a_th 0)), (1, .int v1_0)]) E rfl hl dX2_rowsOf_16 (by decide) rfl (fun ls hl => ?_)
  have L_18 : ∀ (N_18 : Nat) (w2_j18 : Int32) (w3_j18 : Int32) (w6_j18 : Int32) (H : Heap) (locs : List Loc) (ls : Array Slot) (hW : WD k A s.heap (wCourt k a_th th_0) H locs) (hl : lv_has ls 8 [(1, .int v1_0), (2, .int w2_j18), (3, .int w3_j18), (4, .ref (a_th 2)), (5, .int (64 : Int32)), (6, .int w6_j18)]) (hf : l_X2_rowsOf_18 n th_0 v1_0 (64 : Int32) N_18 w2_j18 w3_j18 w6_j18 = some res), W p l e { frames := 0, cells := 0, slots := 0, locals := 0 } s m args below meth c H locs 0 0 Q (F0 m 18 ls []) := by
    intro N_18
    induction N_18 with
    | zero => intro w2_j18 w3_j18 w6_j18 H locs ls hW hl hf; exact o0 hf
    | succ N_18 ih_18 =>
      intro w2_j18 w3_j18 w6_j18 H locs ls hW hl hf
      have hf : s_X2_rowsOf_18 n th_0 v1_0 (64 : Int32) (l_X2_rowsOf_18 n th_0 v1_0 (64 : Int32) N_18) w2_j18 w3_j18 w6_j18 = some res := hf
      unfold s_X2_rowsOf_18 at hf
      refine k_iload E hl 5 dX2_rowsOf_18 rfl ?_
      refine k_iload E hl 4 dX2_rowsOf_20 rfl ?_
      refine lv_icmp_ge (tgt := 63) E.hx E.hb dX2_rowsOf_22 (by decide) (fun hc => ?_) (fun hc => ?_)
      · have hf := oT hc hf
        refine k_iload_n E hl 1 dX2_rowsOf_63 rfl ?_
        exact hret _ () _ _ _ _ _ _ hW (Option.some.inj hf).symm rfl (by decide) (by decide) dX2_rowsOf_64
      · have hf := oF hc hf
        refine k_aload E hl 3 dX2_rowsOf_25 rfl ?_
        refine k_iload E hl 5 dX2_rowsOf_27 rfl ?_
        obtain ⟨hin, hf⟩ := oI hf
        obtain ⟨x_1, ex_1, hf⟩ := oL hf
        refine k_iald E hW 2 rfl hin dX2_rowsOf_29 ?_
        refine k_topi ex_1 ?_
        refine k_istore (lv' := [(7, .int x_1), (1, .int v1_0), (2, .int w2_j18), (3, .int w3_j18), (4, .ref (a_th 2)), (5, .int (64 : Int32)), (6, .int w6_j18)]) E rfl hl dX2_rowsOf_30 (by decide) rfl (fun ls hl => ?_)
        refine k_iload E hl 0 dX2_rowsOf_32 rfl ?_
        refine k_iload_n E hl 1 dX2_rowsOf_34 rfl ?_
        have J_45 : ∀ (w2_j45 : Int32) (w6_j45 : Int32) (w7_j45 : Int32) (H : Heap) (locs : List Loc) (ls : Array Slot) (hW : WD k A s.heap (wCourt k a_th th_0) H locs) (hl : lv_has ls 8 [(1, .int v1_0), (2, .int w2_j45), (4, .ref (a_th 2)), (5, .int (64 : Int32)), (6, .int w6_j45), (7, .int w7_j45)]) (hf : j_X2_rowsOf_45 n th_0 v1_0 (64 : Int32) (l_X2_rowsOf_18 n th_0 v1_0 (64 : Int32) N_18) w2_j45 w6_j45 w7_j45 = some res), W p l e { frames := 0, cells := 0, slots := 0, locals := 0 } s m args below meth c H locs 0 0 Q (F0 m 45 ls []) := by
          intro w2_j45 w6_j45 w7_j45 H locs ls hW hl hf
          unfold j_X2_rowsOf_45 at hf
          refine k_iload E hl 5 dX2_rowsOf_45 rfl ?_
          refine k_iload_n E hl 0 dX2_rowsOf_47 rfl ?_
          refine lv_icmp_ne (tgt := 55) E.hx E.hb dX2_rowsOf_48 (by decide) (fun hc => ?_) (fun hc => ?_)
          · have hf := oF hc hf
            refine lv_iconst (v := (0 : Int32)) E.hx E.hb dX2_rowsOf_55 ic_0 ?_
            refine k_istore_n (lv' := [(3, .int (0 : Int32)), (1, .int v1_0), (2, .int w2_j45), (4, .ref (a_th 2)), (5, .int (64 : Int32)), (6, .int w6_j45), (7, .int w7_j45)]) E rfl hl dX2_rowsOf_56 rfl (by decide) rfl (fun ls hl => ?_)
            obtain ⟨v6_2, ev6_2, hf⟩ := oL hf
            refine k_iinc (lv' := [(6, .int v6_2), (3, .int (0 : Int32)), (1, .int v1_0), (2, .int w2_j45), (4, .ref (a_th 2)), (5, .int (64 : Int32)), (7, .int w7_j45)]) E hl 5 dX2_rowsOf_57 rfl (ev6_2.trans (congrArg (fun z => w6_j45 + z) ic_1.symm)) (by decide) rfl (fun ls hl => ?_)
            refine lv_goto (tgt := 18) E.hx E.hb dX2_rowsOf_60 (by decide) ?_
            exact ih_18 w2_j45 (0 : Int32) v6_2 _ _ _ hW (lv_sub hl [2, 3, 1, 4, 5, 0] rfl) hf
          · have hf := oT hc hf
            refine lv_iconst (v := (1 : Int32)) E.hx E.hb dX2_rowsOf_51 ic_1 ?_
            refine lv_goto (tgt := 56) E.hx E.hb dX2_rowsOf_52 (by decide) ?_
            refine k_istore_n (lv' := [(3, .int (1 : Int32)), (1, .int v1_0), (2, .int w2_j45), (4, .ref (a_th 2)), (5, .int (64 : Int32)), (6, .int w6_j45), (7, .int w7_j45)]) E rfl hl dX2_rowsOf_56 rfl (by decide) rfl (fun ls hl => ?_)
            obtain ⟨v6_3, ev6_3, hf⟩ := oL hf
            refine k_iinc (lv' := [(6, .int v6_3), (3, .int (1 : Int32)), (1, .int v1_0), (2, .int w2_j45), (4, .ref (a_th 2)), (5, .int (64 : Int32)), (7, .int w7_j45)]) E hl 5 dX2_rowsOf_57 rfl (ev6_3.trans (congrArg (fun z => w6_j45 + z) ic_1.symm)) (by decide) rfl (fun ls hl => ?_)
            refine lv_goto (tgt := 18) E.hx E.hb dX2_rowsOf_60 (by decide) ?_
            exact ih_18 w2_j45 (1 : Int32) v6_3 _ _ _ hW (lv_sub hl [2, 3, 1, 4, 5, 0] rfl) hf
        refine lv_icmp_ne (tgt := 45) E.hx E.hb dX2_rowsOf_35 (by decide) (fun hc => ?_) (fun hc => ?_)
        · have hf := oF hc hf
          exact J_45 w2_j18 w6_j18 x_1 _ _ _ hW (lv_sub hl [1, 2, 4, 5, 6, 0] rfl) hf
        · have hf := oT hc hf
          refine k_iload_n E hl 3 dX2_rowsOf_38 rfl ?_
          refine lv_if_ne (tgt := 45) E.hx E.hb dX2_rowsOf_39 (by decide) (fun hc => ?_) (fun hc => ?_)
          · have hf := oF hc hf
            exact J_45 w2_j18 w6_j18 x_1 _ _ _ hW (lv_sub hl [1, 2, 4, 5, 6, 0] rfl) hf
          · have hf := oT hc hf
            obtain ⟨v2_4, ev2_4, hf⟩ := oL hf
            refine k_iinc (lv' := [(2, .int v2_4), (7, .int x_1), (1, .int v1_0), (3, .int w3_j18), (4, .ref (a_th 2)), (5, .int (64 : Int32)), (6, .int w6_j18)]) E hl 2 dX2_rowsOf_42 rfl (ev2_4.trans (congrArg (fun z => w2_j18 + z) ic_1.symm)) (by decide) rfl (fun ls hl => ?_)
            exact J_45 v2_4 w6_j18 x_1 _ _ _ hW (lv_sub hl [2, 0, 4, 5, 6, 1] rfl) hf
  exact L_18 n (0 : Int32) (0 : Int32) (0 : Int32) _ _ _ hW (lv_sub hl [6, 4, 3, 2, 1, 0] rfl) hf
def j_X2_lend_160 (n : Nat) (w2_j116 : Int32) (th_j160 : OS) (w5_j160 : Int32) : Option (OS × Int32) :=
  Let (sI th_j160 2 ((th_j160.1 2) - w2_j116)) (fun th_19 : OS =>
  some (th_19, w5_j160))
def s_X2_lend_116 (n : Nat) (w2_j116 : Int32) (w5_j116 : Int32) (rc_116 : (OS) → (Int32) → (Int32) → Option (OS × Int32)) (th_j116 : OS) (w6_j116 : Int32) (w7_j116 : Int32) : Option (OS × Int32) :=
  if (64 : Int32) ≤ w7_j116 then (
  j_X2_lend_160 n w2_j116 th_j116 w5_j116) else (
  if w6_j116 ≤ 0 then (
  j_X2_lend_160 n w2_j116 th_j116 w5_j116) else (
  gI 64 w7_j116 (Let ((th_j116.2.1 10) w7_j116.toNatClampNeg) (fun x_20 : Int32 =>
  if x_20 = (-1 : Int32) then (
  gI 64 w7_j116 (Let (sA th_j116 10 (upd (th_j116.2.1 10) w7_j116.toNatClampNeg w5_j116)) (fun th_22 : OS =>
  Let (w6_j116 + (-1 : Int32)) (fun v6_23 : Int32 =>
  Let (w7_j116 + (1 : Int32)) (fun v7_24 : Int32 =>
  rc_116 th_22 v6_23 v7_24))))) else (
  Let (w7_j116 + (1 : Int32)) (fun v7_21 : Int32 =>
  rc_116 th_j116 w6_j116 v7_21))))))
def l_X2_lend_116 (n : Nat) (w2_j116 : Int32) (w5_j116 : Int32) : Nat → (OS) → (Int32) → (Int32) → Option (OS × Int32)
  | 0 => fun _ _ _ => none
  | N + 1 => s_X2_lend_116 n w2_j116 w5_j116 (l_X2_lend_116 n w2_j116 w5_j116 N)
def f_X2_lend (n : Nat) (th_0 : OS) (v1_0 : Int32) (v2_0 : Int32) (v3_0 : Int32) (v4_0 : Int32) : Option (OS × Int32) :=
  Let (th_0.1 3) (fun v5_1 : Int32 =>
  Let (sI th_0 3 ((th_0.1 3) + (1 : Int32))) (fun th_2 : OS =>
  bnd (f_X6_set n (8 : Int32) 640 (th_2.2.1 12) v5_1 (0 : Int32) v1_0) (fun (y_3 : Nat → Int32) =>
  Let (sA th_2 12 y_3) (fun th_4 : OS =>
  bnd (f_X6_set n (8 : Int32) 640 (th_4.2.1 12) v5_1 (1 : Int32) v2_0) (fun (y_5 : Nat → Int32) =>
  Let (sA th_4 12 y_5) (fun th_6 : OS =>
  bnd (f_X6_set n (8 : Int32) 640 (th_6.2.1 12) v5_1 (2 : Int32) v3_0) (fun (y_7 : Nat → Int32) =>
  Let (sA th_6 12 y_7) (fun th_8 : OS =>
  bnd (f_X6_set n (8 : Int32) 640 (th_8.2.1 12) v5_1 (3 : Int32) (th_8.1 0)) (fun (y_9 : Nat → Int32) =>
  Let (sA th_8 12 y_9) (fun th_10 : OS =>
  bnd (f_X6_set n (8 : Int32) 640 (th_10.2.1 12) v5_1 (4 : Int32) v4_0) (fun (y_11 : Nat → Int32) =>
  Let (sA th_10 12 y_11) (fun th_12 : OS =>
  bnd (f_X6_set n (8 : Int32) 640 (th_12.2.1 12) v5_1 (5 : Int32) (0 : Int32)) (fun (y_13 : Nat → Int32) =>
  Let (sA th_12 12 y_13) (fun th_14 : OS =>
  bnd (f_X6_set n (8 : Int32) 640 (th_14.2.1 12) v5_1 (6 : Int32) (0 : Int32)) (fun (y_15 : Nat → Int32) =>
  Let (sA th_14 12 y_15) (fun th_16 : OS =>
  bnd (f_X6_set n (8 : Int32) 640 (th_16.2.1 12) v5_1 (7 : Int32) v2_0) (fun (y_17 : Nat → Int32) =>
  Let (sA th_16 12 y_17) (fun th_18 : OS =>
  l_X2_lend_116 n v2_0 v5_1 n th_18 v2_0 (0 : Int32)))))))))))))))))))
set_option maxHeartbeats 4000000 in
set_option maxRecDepth 100000 in
theorem c_X2_lend (n : Nat) (l : Launch) (k : KT) (a_th : Nat → Nat) (th_0 : OS) (v1_0 : Int32) (v2_0 : Int32) (v3_0 : Int32) (v4_0 : Int32) (res : (OS × Int32)) (hf : f_X2_lend n th_0 v1_0 v2_0 v3_0 v4_0 = some res) : CG l k yX2_lend cX2_lend 8 (some .int) 1 0 0 24 [.ref (a_th 0), .int v1_0, .int v2_0, .int v3_0, .int v4_0] (wCourt k a_th th_0) (Qi k (fun u : OS => wCourt k a_th u) (fun (r : Int32) (u : OS) => res = (u, r))) := by
  refine CG.ofI (by decide) (Nat.le_of_ble_eq_true rfl) (fun p e s m args below meth c A Q E hnm hW hA hret ls hl => ?_)
  have hl : lv_has ls 8 [(0, .ref (a_th 0)), (1, .int v1_0), (2, .int v2_0), (3, .int v3_0), (4, .int v4_0)] := hl
  unfold f_X2_lend at hf
  refine k_aload_n E hl 0 dX2_lend_0 rfl ?_
  refine gf_X2_21 E hW 0 rfl rfl dX2_lend_1 ?_
  obtain ⟨v5_1, ev5_1, hf⟩ := oL hf
  refine k_istore (lv' := [(5, .int v5_1), (0, .ref (a_th 0)), (1, .int v1_0), (2, .int v2_0), (3, .int v3_0), (4, .int v4_0)]) E ev5_1 hl dX2_lend_4 (by decide) rfl (fun ls hl => ?_)
  refine k_aload_n E hl 1 dX2_lend_6 rfl ?_
  refine lv_dup E.hx E.hb dX2_lend_7 rfl ?_
  refine gf_X2_21 E hW 0 rfl rfl dX2_lend_8 ?_
  refine lv_iconst (v := (1 : Int32)) E.hx E.hb dX2_lend_11 ic_1 ?_
  refine lv_iadd E.hx E.hb dX2_lend_12 ?_
  obtain ⟨th_2, eth_2, hf⟩ := oL hf
  refine pf_X2_21 (ws2 := wCourt k a_th th_2) E hW 0 rfl rfl rfl (Nat.le_of_ble_eq_true rfl) dX2_lend_13 (by rw [eth_2]; rfl) (fun H locs hW => ?_)
  refine k_aload_n E hl 1 dX2_lend_16 rfl ?_
  refine gf_X2_56 E hW 0 rfl rfl dX2_lend_17 ?_
  refine k_iload E hl 0 dX2_lend_20 rfl ?_
  refine lv_iconst (v := (0 : Int32)) E.hx E.hb dX2_lend_22 ic_0 ?_
  refine k_iload_n E hl 2 dX2_lend_23 rfl ?_
  obtain ⟨y_3, hg, hf⟩ := ob hf
  obtain ⟨th_4, eth_4, hf⟩ := oL hf
  refine k_callVv (As := [.int v5_1, .int (0 : Int32), .int v1_0]) (rest := []) (ws2 := fun u => wCourt k a_th (sA th_2 12 (u))) (c_X6_set n l k (fun j => a_th (5 + j)) (8 : Int32) 640 (th_2.2.1 12) v5_1 (0 : Int32) v1_0 y_3 hg) E vl_X2_93 dX2_lend_24 rfl [5, 6] 7 5 hW hA hl rfl rfl rfl rfl ⟨by decide, by decide⟩ ⟨by decide, by decide⟩ (Nat.le_of_ble_eq_true rfl) rfl (fun _ => rfl) (fun _ => rfl) (fun u H locs hp hW => ?_)
  cases hp
  have hW : WD k A s.heap (wCourt k a_th th_4) H locs := by rw [eth_4]; exact hW
  refine k_aload_n E hl 1 dX2_lend_27 rfl ?_
  refine gf_X2_56 E hW 0 rfl rfl dX2_lend_28 ?_
  refine k_iload E hl 0 dX2_lend_31 rfl ?_
  refine lv_iconst (v := (1 : Int32)) E.hx E.hb dX2_lend_33 ic_1 ?_
  refine k_iload_n E hl 3 dX2_lend_34 rfl ?_
  obtain ⟨y_5, hg, hf⟩ := ob hf
  obtain ⟨th_6, eth_6, hf⟩ := oL hf
  refine k_callVv (As := [.int v5_1, .int (1 : Int32), .int v2_0]) (rest := []) (ws2 := fun u => wCourt k a_th (sA th_4 12 (u))) (c_X6_set n l k (fun j => a_th (5 + j)) (8 : Int32) 640 (th_4.2.1 12) v5_1 (1 : Int32) v2_0 y_5 hg) E vl_X2_93 dX2_lend_35 rfl [5, 6] 7 5 hW hA hl rfl rfl rfl rfl ⟨by decide, by decide⟩ ⟨by decide, by decide⟩ (Nat.le_of_ble_eq_true rfl) rfl (fun _ => rfl) (fun _ => rfl) (fun u H locs hp hW => ?_)
  cases hp
  have hW : WD k A s.heap (wCourt k a_th th_6) H locs := by rw [eth_6]; exact hW
  refine k_aload_n E hl 1 dX2_lend_38 rfl ?_
  refine gf_X2_56 E hW 0 rfl rfl dX2_lend_39 ?_
  refine k_iload E hl 0 dX2_lend_42 rfl ?_
  refine lv_iconst (v := (2 : Int32)) E.hx E.hb dX2_lend_44 ic_2 ?_
  refine k_iload_n E hl 4 dX2_lend_45 rfl ?_
  obtain ⟨y_7, hg, hf⟩ := ob hf
  obtain ⟨th_8, eth_8, hf⟩ := oL hf
  refine k_callVv (As := [.int v5_1, .int (2 : Int32), .int v3_0]) (rest := []) (ws2 := fun u => wCourt k a_th (sA th_6 12 (u))) (c_X6_set n l k (fun j => a_th (5 + j)) (8 : Int32) 640 (th_6.2.1 12) v5_1 (2 : Int32) v3_0 y_7 hg) E vl_X2_93 dX2_lend_46 rfl [5, 6] 7 5 hW hA hl rfl rfl rfl rfl ⟨by decide, by decide⟩ ⟨by decide, by decide⟩ (Nat.le_of_ble_eq_true rfl) rfl (fun _ => rfl) (fun _ => rfl) (fun u H locs hp hW => ?_)
  cases hp
  have hW : WD k A s.heap (wCourt k a_th th_8) H locs := by rw [eth_8]; exact hW
  refine k_aload_n E hl 1 dX2_lend_49 rfl ?_
  refine gf_X2_56 E hW 0 rfl rfl dX2_lend_50 ?_
  refine k_iload E hl 0 dX2_lend_53 rfl ?_
  refine lv_iconst (v := (3 : Int32)) E.hx E.hb dX2_lend_55 ic_3 ?_
  refine k_aload_n E hl 1 dX2_lend_56 rfl ?_
  refine gf_X2_9 E hW 0 rfl rfl dX2_lend_57 ?_
  obtain ⟨y_9, hg, hf⟩ := ob hf
  obtain ⟨th_10, eth_10, hf⟩ := oL hf
  refine k_callVv (As := [.int v5_1, .int (3 : Int32), .int (th_8.1 0)]) (rest := []) (ws2 := fun u => wCourt k a_th (sA th_8 12 (u))) (c_X6_set n l k (fun j => a_th (5 + j)) (8 : Int32) 640 (th_8.2.1 12) v5_1 (3 : Int32) (th_8.1 0) y_9 hg) E vl_X2_93 dX2_lend_60 rfl [5, 6] 7 5 hW hA hl rfl rfl rfl rfl ⟨by decide, by decide⟩ ⟨by decide, by decide⟩ (Nat.le_of_ble_eq_true rfl) rfl (fun _ => rfl) (fun _ => rfl) (fun u H locs hp hW => ?_)
  cases hp
  have hW : WD k A s.heap (wCourt k a_th th_10) H locs := by rw [eth_10]; exact hW
  refine k_aload_n E hl 1 dX2_lend_63 rfl ?_
  refine gf_X2_56 E hW 0 rfl rfl dX2_lend_64 ?_
  refine k_iload E hl 0 dX2_lend_67 rfl ?_
  refine lv_iconst (v := (4 : Int32)) E.hx E.hb dX2_lend_69 ic_4 ?_
  refine k_iload E hl 5 dX2_lend_70 rfl ?_
  obtain ⟨y_11, hg, hf⟩ := ob hf
  obtain ⟨th_12, eth_12, hf⟩ := oL hf
  refine k_callVv (As := [.int v5_1, .int (4 : Int32), .int v4_0]) (rest := []) (ws2 := fun u => wCourt k a_th (sA th_10 12 (u))) (c_X6_set n l k (fun j => a_th (5 + j)) (8 : Int32) 640 (th_10.2.1 12) v5_1 (4 : Int32) v4_0 y_11 hg) E vl_X2_93 dX2_lend_72 rfl [5, 6] 7 5 hW hA hl rfl rfl rfl rfl ⟨by decide, by decide⟩ ⟨by decide, by decide⟩ (Nat.le_of_ble_eq_true rfl) rfl (fun _ => rfl) (fun _ => rfl) (fun u H locs hp hW => ?_)
  cases hp
  have hW : WD k A s.heap (wCourt k a_th th_12) H locs := by rw [eth_12]; exact hW
  refine k_aload_n E hl 1 dX2_lend_75 rfl ?_
  refine gf_X2_56 E hW 0 rfl rfl dX2_lend_76 ?_
  refine k_iload E hl 0 dX2_lend_79 rfl ?_
  refine lv_iconst (v := (5 : Int32)) E.hx E.hb dX2_lend_81 ic_5 ?_
  refine lv_iconst (v := (0 : Int32)) E.hx E.hb dX2_lend_82 ic_0 ?_
  obtain ⟨y_13, hg, hf⟩ := ob hf
  obtain ⟨th_14, eth_14, hf⟩ := oL hf
  refine k_callVv (As := [.int v5_1, .int (5 : Int32), .int (0 : Int32)]) (rest := []) (ws2 := fun u => wCourt k a_th (sA th_12 12 (u))) (c_X6_set n l k (fun j => a_th (5 + j)) (8 : Int32) 640 (th_12.2.1 12) v5_1 (5 : Int32) (0 : Int32) y_13 hg) E vl_X2_93 dX2_lend_83 rfl [5, 6] 7 5 hW hA hl rfl rfl rfl rfl ⟨by decide, by decide⟩ ⟨by decide, by decide⟩ (Nat.le_of_ble_eq_true rfl) rfl (fun _ => rfl) (fun _ => rfl) (fun u H locs hp hW => ?_)
  cases hp
  have hW : WD k A s.heap (wCourt k a_th th_14) H locs := by rw [eth_14]; exact hW
  refine k_aload_n E hl 1 dX2_lend_86 rfl ?_
  refine gf_X2_56 E hW 0 rfl rfl dX2_lend_87 ?_
  refine k_iload E hl 0 dX2_lend_90 rfl ?_
  refine lv_bipush (v := (6 : Int32)) E.hx E.hb dX2_lend_92 bp_6 ?_
  refine lv_iconst (v := (0 : Int32)) E.hx E.hb dX2_lend_94 ic_0 ?_
  obtain ⟨y_15, hg, hf⟩ := ob hf
  obtain ⟨th_16, eth_16, hf⟩ := oL hf
  refine k_callVv (As := [.int v5_1, .int (6 : Int32), .int (0 : Int32)]) (rest := []) (ws2 := fun u => wCourt k a_th (sA th_14 12 (u))) (c_X6_set n l k (fun j => a_th (5 + j)) (8 : Int32) 640 (th_14.2.1 12) v5_1 (6 : Int32) (0 : Int32) y_15 hg) E vl_X2_93 dX2_lend_95 rfl [5, 6] 7 5 hW hA hl rfl rfl rfl rfl ⟨by decide, by decide⟩ ⟨by decide, by decide⟩ (Nat.le_of_ble_eq_true rfl) rfl (fun _ => rfl) (fun _ => rfl) (fun u H locs hp hW => ?_)
  cases hp
  have hW : WD k A s.heap (wCourt k a_th th_16) H locs := by rw [eth_16]; exact hW
  refine k_aload_n E hl 1 dX2_lend_98 rfl ?_
  refine gf_X2_56 E hW 0 rfl rfl dX2_lend_99 ?_
  refine k_iload E hl 0 dX2_lend_102 rfl ?_
  refine lv_bipush (v := (7 : Int32)) E.hx E.hb dX2_lend_104 bp_7 ?_
  refine k_iload_n E hl 3 dX2_lend_106 rfl ?_
  obtain ⟨y_17, hg, hf⟩ := ob hf
  obtain ⟨th_18, eth_18, hf⟩ := oL hf
  refine k_callVv (As := [.int v5_1, .int (7 : Int32), .int v2_0]) (rest := []) (ws2 := fun u => wCourt k a_th (sA th_16 12 (u))) (c_X6_set n l k (fun j => a_th (5 + j)) (8 : Int32) 640 (th_16.2.1 12) v5_1 (7 : Int32) v2_0 y_17 hg) E vl_X2_93 dX2_lend_107 rfl [5, 6] 7 5 hW hA hl rfl rfl rfl rfl ⟨by decide, by decide⟩ ⟨by decide, by decide⟩ (Nat.le_of_ble_eq_true rfl) rfl (fun _ => rfl) (fun _ => rfl) (fun u H locs hp hW => ?_)
  cases hp
  have hW : WD k A s.heap (wCourt k a_th th_18) H locs := by rw [eth_18]; exact hW
  refine k_iload_n E hl 3 dX2_lend_110 rfl ?_
  refine k_istore (lv' := [(6, .int v2_0), (5, .int v5_1), (0, .ref (a_th 0)), (1, .int v1_0), (2, .int v2_0), (3, .int v3_0), (4, .int v4_0)]) E rfl hl dX2_lend_111 (by decide) rfl (fun ls hl => ?_)
  refine lv_iconst (v := (0 : Int32)) E.hx E.hb dX2_lend_113 ic_0 ?_
  refine k_istore (lv' := [(7, .int (0 : Int32)), (6, .int v2_0), (5, .int v5_1), (0, .ref (a_th 0)), (1, .int v1_0), (2, .int v2_0), (3, .int v3_0), (4, .int v4_0)]) E rfl hl dX2_lend_114 (by decide) rfl (fun ls hl => ?_)
  have L_116 : ∀ (N_116 : Nat) (th_j116 : OS) (w6_j116 : Int32) (w7_j116 : Int32) (H : Heap) (locs : List Loc) (ls : Array Slot) (hW : WD k A s.heap (wCourt k a_th th_j116) H locs) (hl : lv_has ls 8 [(0, .ref (a_th 0)), (2, .int v2_0), (5, .int v5_1), (6, .int w6_j116), (7, .int w7_j116)]) (hf : l_X2_lend_116 n v2_0 v5_1 N_116 th_j116 w6_j116 w7_j116 = some res), W p l e { frames := 1, cells := 0, slots := 0, locals := 24 } s m args below meth c H locs 0 0 Q (F0 m 116 ls []) := by
    intro N_116
    induction N_116 with
    | zero => intro th_j116 w6_j116 w7_j116 H locs ls hW hl hf; exact o0 hf
    | succ N_116 ih_116 =>
      intro th_j116 w6_j116 w7_j116 H locs ls hW hl hf
      have hf : s_X2_lend_116 n v2_0 v5_1 (l_X2_lend_116 n v2_0 v5_1 N_116) th_j116 w6_j116 w7_j116 = some res := hf
      unfold s_X2_lend_116 at hf
      refine k_iload E hl 4 dX2_lend_116 rfl ?_
      refine k_aload_n E hl 0 dX2_lend_118 rfl ?_
      refine gf_X2_43 E hW 0 rfl rfl dX2_lend_119 ?_
      refine k_alen (v := (64 : Int32)) E hW 2 0 rfl rfl on_64 dX2_lend_122 ?_
      have J_160 : ∀ (th_j160 : OS) (w5_j160 : Int32) (H : Heap) (locs : List Loc) (ls : Array Slot) (hW : WD k A s.heap (wCourt k a_th th_j160) H locs) (hl : lv_has ls 8 [(0, .ref (a_th 0)), (2, .int v2_0), (5, .int w5_j160)]) (hf : j_X2_lend_160 n v2_0 th_j160 w5_j160 = some res), W p l e { frames := 1, cells := 0, slots := 0, locals := 24 } s m args below meth c H locs 0 0 Q (F0 m 160 ls []) := by
        intro th_j160 w5_j160 H locs ls hW hl hf
        unfold j_X2_lend_160 at hf
        refine k_aload_n E hl 0 dX2_lend_160 rfl ?_
        refine lv_dup E.hx E.hb dX2_lend_161 rfl ?_
        refine gf_X2_18 E hW 0 rfl rfl dX2_lend_162 ?_
        refine k_iload_n E hl 1 dX2_lend_165 rfl ?_
        refine lv_isub E.hx E.hb dX2_lend_166 ?_
        obtain ⟨th_19, eth_19, hf⟩ := oL hf
        refine pf_X2_18 (ws2 := wCourt k a_th th_19) E hW 0 rfl rfl rfl (Nat.le_of_ble_eq_true rfl) dX2_lend_167 (by rw [eth_19]; rfl) (fun H locs hW => ?_)
        refine k_iload E hl 2 dX2_lend_170 rfl ?_
        exact hret _ th_19 _ _ _ _ _ _ hW (Option.some.inj hf).symm rfl (by decide) (by decide) dX2_lend_172
      refine lv_icmp_ge (tgt := 160) E.hx E.hb dX2_lend_123 (by decide) (fun hc => ?_) (fun hc => ?_)
      · have hf := oT hc hf
        exact J_160 th_j116 v5_1 _ _ _ hW (lv_sub hl [0, 1, 2] rfl) hf
      · have hf := oF hc hf
        refine k_iload E hl 3 dX2_lend_126 rfl ?_
        refine lv_if_le (tgt := 160) E.hx E.hb dX2_lend_128 (by decide) (fun hc => ?_) (fun hc => ?_)
        · have hf := oT hc hf
          exact J_160 th_j116 v5_1 _ _ _ hW (lv_sub hl [0, 1, 2] rfl) hf
        · have hf := oF hc hf
          refine k_aload_n E hl 0 dX2_lend_131 rfl ?_
          refine gf_X2_43 E hW 0 rfl rfl dX2_lend_132 ?_
          refine k_iload E hl 4 dX2_lend_135 rfl ?_
          obtain ⟨hin, hf⟩ := oI hf
          obtain ⟨x_20, ex_20, hf⟩ := oL hf
          refine k_iald E hW 2 rfl hin dX2_lend_137 ?_
          refine k_topi ex_20 ?_
          refine lv_iconst (v := (-1 : Int32)) E.hx E.hb dX2_lend_138 ic_m1 ?_
          refine lv_icmp_ne (tgt := 154) E.hx E.hb dX2_lend_139 (by decide) (fun hc => ?_) (fun hc => ?_)
          · have hf := oF hc hf
            obtain ⟨v7_21, ev7_21, hf⟩ := oL hf
            refine k_iinc (lv' := [(7, .int v7_21), (0, .ref (a_th 0)), (2, .int v2_0), (5, .int v5_1), (6, .int w6_j116)]) E hl 4 dX2_lend_154 rfl (ev7_21.trans (congrArg (fun z => w7_j116 + z) ic_1.symm)) (by decide) rfl (fun ls hl => ?_)
            refine lv_goto (tgt := 116) E.hx E.hb dX2_lend_157 (by decide) ?_
            exact ih_116 th_j116 w6_j116 v7_21 _ _ _ hW (lv_sub hl [1, 2, 3, 4, 0] rfl) hf
          · have hf := oT hc hf
            refine k_aload_n E hl 0 dX2_lend_142 rfl ?_
            refine gf_X2_43 E hW 0 rfl rfl dX2_lend_143 ?_
            refine k_iload E hl 4 dX2_lend_146 rfl ?_
            refine k_iload E hl 2 dX2_lend_148 rfl ?_
            obtain ⟨hin, hf⟩ := oI hf
            obtain ⟨th_22, eth_22, hf⟩ := oL hf
            refine k_iast (ws2 := wCourt k a_th th_22) E hW 2 rfl hin dX2_lend_150 (by rw [eth_22]; rfl) (fun H locs hW => ?_)
            obtain ⟨v6_23, ev6_23, hf⟩ := oL hf
            refine k_iinc (lv' := [(6, .int v6_23), (0, .ref (a_th 0)), (2, .int v2_0), (5, .int v5_1), (7, .int w7_j116)]) E hl 3 dX2_lend_151 rfl (ev6_23.trans (congrArg (fun z => w6_j116 + z) ic_m1.symm)) (by decide) rfl (fun ls hl => ?_)
            obtain ⟨v7_24, ev7_24, hf⟩ := oL hf
            refine k_iinc (lv' := [(7, .int v7_24), (6, .int v6_23), (0, .ref (a_th 0)), (2, .int v2_0), (5, .int v5_1)]) E hl 4 dX2_lend_154 rfl (ev7_24.trans (congrArg (fun z => w7_j116 + z) ic_1.symm)) (by decide) rfl (fun ls hl => ?_)
            refine lv_goto (tgt := 116) E.hx E.hb dX2_lend_157 (by decide) ?_
            exact ih_116 th_22 v6_23 v7_24 _ _ _ hW (lv_sub hl [2, 3, 4, 1, 0] rfl) hf
  exact L_116 n th_18 v2_0 (0 : Int32) _ _ _ hW (lv_sub hl [3, 5, 2, 1, 0] rfl) hf
def j_X2_release_48 (n : Nat) (w1_j11 : Int32) (w2_j11 : Int32) (th_j48 : OS) : Option (OS) :=
  bnd (f_X6_add n (8 : Int32) 640 (th_j48.2.1 12) w1_j11 (1 : Int32) (-w2_j11)) (fun (y_2 : Nat → Int32) =>
  Let (sA th_j48 12 y_2) (fun th_3 : OS =>
  Let (sI th_3 2 ((th_3.1 2) + w2_j11)) (fun th_4 : OS =>
  some th_4)))
def s_X2_release_11 (n : Nat) (w1_j11 : Int32) (w2_j11 : Int32) (rc_11 : (OS) → (Int32) → (Int32) → Option (OS)) (th_j11 : OS) (w3_j11 : Int32) (w4_j11 : Int32) : Option (OS) :=
  if w4_j11 < 0 then (
  j_X2_release_48 n w1_j11 w2_j11 th_j11) else (
  if w3_j11 ≤ 0 then (
  j_X2_release_48 n w1_j11 w2_j11 th_j11) else (
  gI 64 w4_j11 (Let ((th_j11.2.1 10) w4_j11.toNatClampNeg) (fun x_5 : Int32 =>
  if x_5 = w1_j11 then (
  gI 64 w4_j11 (Let (sA th_j11 10 (upd (th_j11.2.1 10) w4_j11.toNatClampNeg (-1 : Int32))) (fun th_7 : OS =>
  Let (w3_j11 + (-1 : Int32)) (fun v3_8 : Int32 =>
  Let (w4_j11 + (-1 : Int32)) (fun v4_9 : Int32 =>
  rc_11 th_7 v3_8 v4_9))))) else (
  Let (w4_j11 + (-1 : Int32)) (fun v4_6 : Int32 =>
  rc_11 th_j11 w3_j11 v4_6))))))
def l_X2_release_11 (n : Nat) (w1_j11 : Int32) (w2_j11 : Int32) : Nat → (OS) → (Int32) → (Int32) → Option (OS)
  | 0 => fun _ _ _ => none
  | N + 1 => s_X2_release_11 n w1_j11 w2_j11 (l_X2_release_11 n w1_j11 w2_j11 N)
def f_X2_release (n : Nat) (th_0 : OS) (v1_0 : Int32) (v2_0 : Int32) : Option (OS) :=
  Let ((64 : Int32) - (1 : Int32)) (fun v4_1 : Int32 =>
  l_X2_release_11 n v1_0 v2_0 n th_0 v2_0 v4_1)
set_option maxHeartbeats 4000000 in
set_option maxRecDepth 100000 in
theorem c_X2_release (n : Nat) (l : Launch) (k : KT) (a_th : Nat → Nat) (th_0 : OS) (v1_0 : Int32) (v2_0 : Int32) (res : (OS)) (hf : f_X2_release n th_0 v1_0 v2_0 = some res) : CG l k yX2_release cX2_release 5 none 1 0 0 24 [.ref (a_th 0), .int v1_0, .int v2_0] (wCourt k a_th th_0) (Qv k (fun u : OS => wCourt k a_th u) (fun u : OS => res = u)) := by
  refine CG.ofV (by decide) (Nat.le_of_ble_eq_true rfl) (fun p e s m args below meth c A Q E hnm hW hA hret ls hl => ?_)
  have hl : lv_has ls 5 [(0, .ref (a_th 0)), (1, .int v1_0), (2, .int v2_0)] := hl
  unfold f_X2_release at hf
  refine k_iload_n E hl 2 dX2_release_0 rfl ?_
  refine k_istore_n (lv' := [(3, .int v2_0), (0, .ref (a_th 0)), (1, .int v1_0), (2, .int v2_0)]) E rfl hl dX2_release_1 rfl (by decide) rfl (fun ls hl => ?_)
  refine k_aload_n E hl 1 dX2_release_2 rfl ?_
  refine gf_X2_43 E hW 0 rfl rfl dX2_release_3 ?_
  refine k_alen (v := (64 : Int32)) E hW 2 0 rfl rfl on_64 dX2_release_6 ?_
  refine lv_iconst (v := (1 : Int32)) E.hx E.hb dX2_release_7 ic_1 ?_
  refine lv_isub E.hx E.hb dX2_release_8 ?_
  obtain ⟨v4_1, ev4_1, hf⟩ := oL hf
  refine k_istore (lv' := [(4, .int v4_1), (3, .int v2_0), (0, .ref (a_th 0)), (1, .int v1_0), (2, .int v2_0)]) E ev4_1 hl dX2_release_9 (by decide) rfl (fun ls hl => ?_)
  have L_11 : ∀ (N_11 : Nat) (th_j11 : OS) (w3_j11 : Int32) (w4_j11 : Int32) (H : Heap) (locs : List Loc) (ls : Array Slot) (hW : WD k A s.heap (wCourt k a_th th_j11) H locs) (hl : lv_has ls 5 [(0, .ref (a_th 0)), (1, .int v1_0), (2, .int v2_0), (3, .int w3_j11), (4, .int w4_j11)]) (hf : l_X2_release_11 n v1_0 v2_0 N_11 th_j11 w3_j11 w4_j11 = some res), W p l e { frames := 1, cells := 0, slots := 0, locals := 24 } s m args below meth c H locs 0 0 Q (F0 m 11 ls []) := by
    intro N_11
    induction N_11 with
    | zero => intro th_j11 w3_j11 w4_j11 H locs ls hW hl hf; exact o0 hf
    | succ N_11 ih_11 =>
      intro th_j11 w3_j11 w4_j11 H locs ls hW hl hf
      have hf : s_X2_release_11 n v1_0 v2_0 (l_X2_release_11 n v1_0 v2_0 N_11) th_j11 w3_j11 w4_j11 = some res := hf
      unfold s_X2_release_11 at hf
      refine k_iload E hl 4 dX2_release_11 rfl ?_
      have J_48 : ∀ (th_j48 : OS) (H : Heap) (locs : List Loc) (ls : Array Slot) (hW : WD k A s.heap (wCourt k a_th th_j48) H locs) (hl : lv_has ls 5 [(0, .ref (a_th 0)), (1, .int v1_0), (2, .int v2_0)]) (hf : j_X2_release_48 n v1_0 v2_0 th_j48 = some res), W p l e { frames := 1, cells := 0, slots := 0, locals := 24 } s m args below meth c H locs 0 0 Q (F0 m 48 ls []) := by
        intro th_j48 H locs ls hW hl hf
        unfold j_X2_release_48 at hf
        refine k_aload_n E hl 0 dX2_release_48 rfl ?_
        refine gf_X2_56 E hW 0 rfl rfl dX2_release_49 ?_
        refine k_iload_n E hl 1 dX2_release_52 rfl ?_
        refine lv_iconst (v := (1 : Int32)) E.hx E.hb dX2_release_53 ic_1 ?_
        refine k_iload_n E hl 2 dX2_release_54 rfl ?_
        refine lv_ineg E.hx E.hb dX2_release_55 ?_
        obtain ⟨y_2, hg, hf⟩ := ob hf
        obtain ⟨th_3, eth_3, hf⟩ := oL hf
        refine k_callVv (As := [.int v1_0, .int (1 : Int32), .int (-v2_0)]) (rest := []) (ws2 := fun u => wCourt k a_th (sA th_j48 12 (u))) (c_X6_add n l k (fun j => a_th (5 + j)) (8 : Int32) 640 (th_j48.2.1 12) v1_0 (1 : Int32) (-v2_0) y_2 hg) E vl_X2_97 dX2_release_56 rfl [5, 6] 7 5 hW hA hl rfl rfl rfl rfl ⟨by decide, by decide⟩ ⟨by decide, by decide⟩ (Nat.le_of_ble_eq_true rfl) rfl (fun _ => rfl) (fun _ => rfl) (fun u H locs hp hW => ?_)
        cases hp
        have hW : WD k A s.heap (wCourt k a_th th_3) H locs := by rw [eth_3]; exact hW
        refine k_aload_n E hl 0 dX2_release_59 rfl ?_
        refine lv_dup E.hx E.hb dX2_release_60 rfl ?_
        refine gf_X2_18 E hW 0 rfl rfl dX2_release_61 ?_
        refine k_iload_n E hl 2 dX2_release_64 rfl ?_
        refine lv_iadd E.hx E.hb dX2_release_65 ?_
        obtain ⟨th_4, eth_4, hf⟩ := oL hf
        refine pf_X2_18 (ws2 := wCourt k a_th th_4) E hW 0 rfl rfl rfl (Nat.le_of_ble_eq_true rfl) dX2_release_66 (by rw [eth_4]; rfl) (fun H locs hW => ?_)
        exact hret th_4 _ _ _ _ _ _ hW (Option.some.inj hf).symm (by decide) (by decide) dX2_release_69
      refine lv_if_lt (tgt := 48) E.hx E.hb dX2_release_13 (by decide) (fun hc => ?_) (fun hc => ?_)
      · have hf := oT hc hf
        exact J_48 th_j11 _ _ _ hW (lv_sub hl [0, 1, 2] rfl) hf
      · have hf := oF hc hf
        refine k_iload_n E hl 3 dX2_release_16 rfl ?_
        refine lv_if_le (tgt := 48) E.hx E.hb dX2_release_17 (by decide) (fun hc => ?_) (fun hc => ?_)
        · have hf := oT hc hf
          exact J_48 th_j11 _ _ _ hW (lv_sub hl [0, 1, 2] rfl) hf
        · have hf := oF hc hf
          refine k_aload_n E hl 0 dX2_release_20 rfl ?_
          refine gf_X2_43 E hW 0 rfl rfl dX2_release_21 ?_
          refine k_iload E hl 4 dX2_release_24 rfl ?_
          obtain ⟨hin, hf⟩ := oI hf
          obtain ⟨x_5, ex_5, hf⟩ := oL hf
          refine k_iald E hW 2 rfl hin dX2_release_26 ?_
          refine k_topi ex_5 ?_
          refine k_iload_n E hl 1 dX2_release_27 rfl ?_
          refine lv_icmp_ne (tgt := 42) E.hx E.hb dX2_release_28 (by decide) (fun hc => ?_) (fun hc => ?_)
          · have hf := oF hc hf
            obtain ⟨v4_6, ev4_6, hf⟩ := oL hf
            refine k_iinc (lv' := [(4, .int v4_6), (0, .ref (a_th 0)), (1, .int v1_0), (2, .int v2_0), (3, .int w3_j11)]) E hl 4 dX2_release_42 rfl (ev4_6.trans (congrArg (fun z => w4_j11 + z) ic_m1.symm)) (by decide) rfl (fun ls hl => ?_)
            refine lv_goto (tgt := 11) E.hx E.hb dX2_release_45 (by decide) ?_
            exact ih_11 th_j11 w3_j11 v4_6 _ _ _ hW (lv_sub hl [1, 2, 3, 4, 0] rfl) hf
          · have hf := oT hc hf
            refine k_aload_n E hl 0 dX2_release_31 rfl ?_
            refine gf_X2_43 E hW 0 rfl rfl dX2_release_32 ?_
            refine k_iload E hl 4 dX2_release_35 rfl ?_
            refine lv_iconst (v := (-1 : Int32)) E.hx E.hb dX2_release_37 ic_m1 ?_
            obtain ⟨hin, hf⟩ := oI hf
            obtain ⟨th_7, eth_7, hf⟩ := oL hf
            refine k_iast (ws2 := wCourt k a_th th_7) E hW 2 rfl hin dX2_release_38 (by rw [eth_7]; rfl) (fun H locs hW => ?_)
            obtain ⟨v3_8, ev3_8, hf⟩ := oL hf
            refine k_iinc (lv' := [(3, .int v3_8), (0, .ref (a_th 0)), (1, .int v1_0), (2, .int v2_0), (4, .int w4_j11)]) E hl 3 dX2_release_39 rfl (ev3_8.trans (congrArg (fun z => w3_j11 + z) ic_m1.symm)) (by decide) rfl (fun ls hl => ?_)
            obtain ⟨v4_9, ev4_9, hf⟩ := oL hf
            refine k_iinc (lv' := [(4, .int v4_9), (3, .int v3_8), (0, .ref (a_th 0)), (1, .int v1_0), (2, .int v2_0)]) E hl 4 dX2_release_42 rfl (ev4_9.trans (congrArg (fun z => w4_j11 + z) ic_m1.symm)) (by decide) rfl (fun ls hl => ?_)
            refine lv_goto (tgt := 11) E.hx E.hb dX2_release_45 (by decide) ?_
            exact ih_11 th_7 v3_8 v4_9 _ _ _ hW (lv_sub hl [2, 3, 4, 1, 0] rfl) hf
  exact L_11 n th_0 v2_0 v4_1 _ _ _ hW (lv_sub hl [2, 3, 4, 1, 0] rfl) hf
def f_X2_isOpen (n : Nat) (th_0 : OS) (v1_0 : Int32) : Option (Int32) :=
  bnd (f_X6_get n (8 : Int32) 640 (th_0.2.1 12) v1_0 (1 : Int32)) (fun (r_1 : Int32) =>
  if r_1 ≤ 0 then (
  some (0 : Int32)) else (
  some (1 : Int32)))
set_option maxHeartbeats 4000000 in
set_option maxRecDepth 100000 in
theorem c_X2_isOpen (n : Nat) (l : Launch) (k : KT) (a_th : Nat → Nat) (th_0 : OS) (v1_0 : Int32) (res : (Int32)) (hf : f_X2_isOpen n th_0 v1_0 = some res) : CG l k yX2_isOpen cX2_isOpen 2 (some .boolean) 1 0 0 23 [.ref (a_th 0), .int v1_0] (wCourt k a_th th_0) (Qi k (fun u : Unit => wCourt k a_th th_0) (fun (r : Int32) (u : Unit) => res = r)) := by
  refine CG.ofI (by decide) (Nat.le_of_ble_eq_true rfl) (fun p e s m args below meth c A Q E hnm hW hA hret ls hl => ?_)
  have hl : lv_has ls 2 [(0, .ref (a_th 0)), (1, .int v1_0)] := hl
  unfold f_X2_isOpen at hf
  refine k_aload_n E hl 0 dX2_isOpen_0 rfl ?_
  refine gf_X2_56 E hW 0 rfl rfl dX2_isOpen_1 ?_
  refine k_iload_n E hl 1 dX2_isOpen_4 rfl ?_
  refine lv_iconst (v := (1 : Int32)) E.hx E.hb dX2_isOpen_5 ic_1 ?_
  obtain ⟨r_1, hg, hf⟩ := ob hf
  refine k_callVi (As := [.int v1_0, .int (1 : Int32)]) (rest := []) (ws2 := fun u => wCourt k a_th th_0) (c_X6_get n l k (fun j => a_th (5 + j)) (8 : Int32) 640 (th_0.2.1 12) v1_0 (1 : Int32) r_1 hg) E vl_X2_100 dX2_isOpen_6 rfl [5, 6] 7 5 hW hA hl rfl rfl rfl rfl ⟨by decide, by decide⟩ ⟨by decide, by decide⟩ (Nat.le_of_ble_eq_true rfl) rfl (fun _ => rfl) (fun _ => rfl) (fun r u H locs hp hW => ?_)
  cases hp
  have hW : WD k A s.heap (wCourt k a_th th_0) H locs := hW
  refine lv_if_le (tgt := 16) E.hx E.hb dX2_isOpen_9 (by decide) (fun hc => ?_) (fun hc => ?_)
  · have hf := oT hc hf
    refine lv_iconst (v := (0 : Int32)) E.hx E.hb dX2_isOpen_16 ic_0 ?_
    exact hret _ () _ _ _ _ _ _ hW (Option.some.inj hf).symm (by decide) (by decide) (by decide) dX2_isOpen_17
  · have hf := oF hc hf
    refine lv_iconst (v := (1 : Int32)) E.hx E.hb dX2_isOpen_12 ic_1 ?_
    refine lv_goto (tgt := 17) E.hx E.hb dX2_isOpen_13 (by decide) ?_
    exact hret _ () _ _ _ _ _ _ hW (Option.some.inj hf).symm (by decide) (by decide) (by decide) dX2_isOpen_17
def f_X2_isBroken (n : Nat) (th_0 : OS) (v1_0 : Int32) : Option (Int32) :=
  bnd (f_X6_get n (8 : Int32) 640 (th_0.2.1 12) v1_0 (1 : Int32)) (fun (r_1 : Int32) =>
  if r_1 ≤ 0 then (
  some (0 : Int32)) else (
  bnd (f_X6_get n (8 : Int32) 640 (th_0.2.1 12) v1_0 (2 : Int32)) (fun (r_2 : Int32) =>
  if (th_0.1 0) ≤ r_2 then (
  some (0 : Int32)) else (
  some (1 : Int32)))))
set_option maxHeartbeats 4000000 in
set_option maxRecDepth 100000 in
theorem c_X2_isBroken (n : Nat) (l : Launch) (k : KT) (a_th : Nat → Nat) (th_0 : OS) (v1_0 : Int32) (res : (Int32)) (hf : f_X2_isBroken n th_0 v1_0 = some res) : CG l k yX2_isBroken cX2_isBroken 2 (some .boolean) 1 0 0 23 [.ref (a_th 0), .int v1_0] (wCourt k a_th th_0) (Qi k (fun u : Unit => wCourt k a_th th_0) (fun (r : Int32) (u : Unit) => res = r)) := by
  refine CG.ofI (by decide) (Nat.le_of_ble_eq_true rfl) (fun p e s m args below meth c A Q E hnm hW hA hret ls hl => ?_)
  have hl : lv_has ls 2 [(0, .ref (a_th 0)), (1, .int v1_0)] := hl
  unfold f_X2_isBroken at hf
  refine k_aload_n E hl 0 dX2_isBroken_0 rfl ?_
  refine gf_X2_56 E hW 0 rfl rfl dX2_isBroken_1 ?_
  refine k_iload_n E hl 1 dX2_isBroken_4 rfl ?_
  refine lv_iconst (v := (1 : Int32)) E.hx E.hb dX2_isBroken_5 ic_1 ?_
  obtain ⟨r_1, hg, hf⟩ := ob hf
  refine k_callVi (As := [.int v1_0, .int (1 : Int32)]) (rest := []) (ws2 := fun u => wCourt k a_th th_0) (c_X6_get n l k (fun j => a_th (5 + j)) (8 : Int32) 640 (th_0.2.1 12) v1_0 (1 : Int32) r_1 hg) E vl_X2_100 dX2_isBroken_6 rfl [5, 6] 7 5 hW hA hl rfl rfl rfl rfl ⟨by decide, by decide⟩ ⟨by decide, by decide⟩ (Nat.le_of_ble_eq_true rfl) rfl (fun _ => rfl) (fun _ => rfl) (fun r u H locs hp hW => ?_)
  cases hp
  have hW : WD k A s.heap (wCourt k a_th th_0) H locs := hW
  refine lv_if_le (tgt := 32) E.hx E.hb dX2_isBroken_9 (by decide) (fun hc => ?_) (fun hc => ?_)
  · have hf := oT hc hf
    refine lv_iconst (v := (0 : Int32)) E.hx E.hb dX2_isBroken_32 ic_0 ?_
    exact hret _ () _ _ _ _ _ _ hW (Option.some.inj hf).symm (by decide) (by decide) (by decide) dX2_isBroken_33
  · have hf := oF hc hf
    refine k_aload_n E hl 0 dX2_isBroken_12 rfl ?_
    refine gf_X2_56 E hW 0 rfl rfl dX2_isBroken_13 ?_
    refine k_iload_n E hl 1 dX2_isBroken_16 rfl ?_
    refine lv_iconst (v := (2 : Int32)) E.hx E.hb dX2_isBroken_17 ic_2 ?_
    obtain ⟨r_2, hg, hf⟩ := ob hf
    refine k_callVi (As := [.int v1_0, .int (2 : Int32)]) (rest := []) (ws2 := fun u => wCourt k a_th th_0) (c_X6_get n l k (fun j => a_th (5 + j)) (8 : Int32) 640 (th_0.2.1 12) v1_0 (2 : Int32) r_2 hg) E vl_X2_100 dX2_isBroken_18 rfl [5, 6] 7 5 hW hA hl rfl rfl rfl rfl ⟨by decide, by decide⟩ ⟨by decide, by decide⟩ (Nat.le_of_ble_eq_true rfl) rfl (fun _ => rfl) (fun _ => rfl) (fun r u H locs hp hW => ?_)
    cases hp
    have hW : WD k A s.heap (wCourt k a_th th_0) H locs := hW
    refine k_aload_n E hl 0 dX2_isBroken_21 rfl ?_
    refine gf_X2_9 E hW 0 rfl rfl dX2_isBroken_22 ?_
    refine lv_icmp_ge (tgt := 32) E.hx E.hb dX2_isBroken_25 (by decide) (fun hc => ?_) (fun hc => ?_)
    · have hf := oT hc hf
      refine lv_iconst (v := (0 : Int32)) E.hx E.hb dX2_isBroken_32 ic_0 ?_
      exact hret _ () _ _ _ _ _ _ hW (Option.some.inj hf).symm (by decide) (by decide) (by decide) dX2_isBroken_33
    · have hf := oF hc hf
      refine lv_iconst (v := (1 : Int32)) E.hx E.hb dX2_isBroken_28 ic_1 ?_
      refine lv_goto (tgt := 33) E.hx E.hb dX2_isBroken_29 (by decide) ?_
      exact hret _ () _ _ _ _ _ _ hW (Option.some.inj hf).symm (by decide) (by decide) (by decide) dX2_isBroken_33
def f_X2_isLoanOf (n : Nat) (th_0 : OS) (v1_0 : Int32) (v2_0 : Int32) : Option (Int32) :=
  if v2_0 = (-1 : Int32) then (
  some (1 : Int32)) else (
  bnd (f_X6_get n (8 : Int32) 640 (th_0.2.1 12) v1_0 (0 : Int32)) (fun (r_1 : Int32) =>
  if r_1 = v2_0 then (
  some (1 : Int32)) else (
  some (0 : Int32))))
set_option maxHeartbeats 4000000 in
set_option maxRecDepth 100000 in
theorem c_X2_isLoanOf (n : Nat) (l : Launch) (k : KT) (a_th : Nat → Nat) (th_0 : OS) (v1_0 : Int32) (v2_0 : Int32) (res : (Int32)) (hf : f_X2_isLoanOf n th_0 v1_0 v2_0 = some res) : CG l k yX2_isLoanOf cX2_isLoanOf 3 (some .boolean) 1 0 0 23 [.ref (a_th 0), .int v1_0, .int v2_0] (wCourt k a_th th_0) (Qi k (fun u : Unit => wCourt k a_th th_0) (fun (r : Int32) (u : Unit) => res = r)) := by
  refine CG.ofI (by decide) (Nat.le_of_ble_eq_true rfl) (fun p e s m args below meth c A Q E hnm hW hA hret ls hl => ?_)
  have hl : lv_has ls 3 [(0, .ref (a_th 0)), (1, .int v1_0), (2, .int v2_0)] := hl
  unfold f_X2_isLoanOf at hf
  refine k_iload_n E hl 2 dX2_isLoanOf_0 rfl ?_
  refine lv_iconst (v := (-1 : Int32)) E.hx E.hb dX2_isLoanOf_1 ic_m1 ?_
  refine lv_icmp_eq (tgt := 18) E.hx E.hb dX2_isLoanOf_2 (by decide) (fun hc => ?_) (fun hc => ?_)
  · have hf := oT hc hf
    refine lv_iconst (v := (1 : Int32)) E.hx E.hb dX2_isLoanOf_18 ic_1 ?_
    refine lv_goto (tgt := 23) E.hx E.hb dX2_isLoanOf_19 (by decide) ?_
    exact hret _ () _ _ _ _ _ _ hW (Option.some.inj hf).symm (by decide) (by decide) (by decide) dX2_isLoanOf_23
  · have hf := oF hc hf
    refine k_aload_n E hl 0 dX2_isLoanOf_5 rfl ?_
    refine gf_X2_56 E hW 0 rfl rfl dX2_isLoanOf_6 ?_
    refine k_iload_n E hl 1 dX2_isLoanOf_9 rfl ?_
    refine lv_iconst (v := (0 : Int32)) E.hx E.hb dX2_isLoanOf_10 ic_0 ?_
    obtain ⟨r_1, hg, hf⟩ := ob hf
    refine k_callVi (As := [.int v1_0, .int (0 : Int32)]) (rest := []) (ws2 := fun u => wCourt k a_th th_0) (c_X6_get n l k (fun j => a_th (5 + j)) (8 : Int32) 640 (th_0.2.1 12) v1_0 (0 : Int32) r_1 hg) E vl_X2_100 dX2_isLoanOf_11 rfl [5, 6] 7 5 hW hA hl rfl rfl rfl rfl ⟨by decide, by decide⟩ ⟨by decide, by decide⟩ (Nat.le_of_ble_eq_true rfl) rfl (fun _ => rfl) (fun _ => rfl) (fun r u H locs hp hW => ?_)
    cases hp
    have hW : WD k A s.heap (wCourt k a_th th_0) H locs := hW
    refine k_iload_n E hl 2 dX2_isLoanOf_14 rfl ?_
    refine lv_icmp_ne (tgt := 22) E.hx E.hb dX2_isLoanOf_15 (by decide) (fun hc => ?_) (fun hc => ?_)
    · have hf := oF hc hf
      refine lv_iconst (v := (0 : Int32)) E.hx E.hb dX2_isLoanOf_22 ic_0 ?_
      exact hret _ () _ _ _ _ _ _ hW (Option.some.inj hf).symm (by decide) (by decide) (by decide) dX2_isLoanOf_23
    · have hf := oT hc hf
      refine lv_iconst (v := (1 : Int32)) E.hx E.hb dX2_isLoanOf_18 ic_1 ?_
      refine lv_goto (tgt := 23) E.hx E.hb dX2_isLoanOf_19 (by decide) ?_
      exact hret _ () _ _ _ _ _ _ hW (Option.some.inj hf).symm (by decide) (by decide) (by decide) dX2_isLoanOf_23
def s_X2_openLoans_4 (n : Nat) (th_0 : OS) (w1_j4 : Int32) (rc_4 : (Int32) → (Int32) → Option (Int32)) (w2_j4 : Int32) (w3_j4 : Int32) : Option (Int32) :=
  if (th_0.1 3) ≤ w3_j4 then (
  some w2_j4) else (
  bnd (f_X2_isOpen n th_0 w3_j4) (fun (r_1 : Int32) =>
  if r_1 = 0 then (
  Let (w3_j4 + (1 : Int32)) (fun v3_2 : Int32 =>
  rc_4 w2_j4 v3_2)) else (
  bnd (f_X2_isLoanOf n th_0 w3_j4 w1_j4) (fun (r_3 : Int32) =>
  if r_3 = 0 then (
  Let (w3_j4 + (1 : Int32)) (fun v3_4 : Int32 =>
  rc_4 w2_j4 v3_4)) else (
  Let (w2_j4 + (1 : Int32)) (fun v2_5 : Int32 =>
  Let (w3_j4 + (1 : Int32)) (fun v3_6 : Int32 =>
  rc_4 v2_5 v3_6)))))))
def l_X2_openLoans_4 (n : Nat) (th_0 : OS) (w1_j4 : Int32) : Nat → (Int32) → (Int32) → Option (Int32)
  | 0 => fun _ _ => none
  | N + 1 => s_X2_openLoans_4 n th_0 w1_j4 (l_X2_openLoans_4 n th_0 w1_j4 N)
def f_X2_openLoans (n : Nat) (th_0 : OS) (v1_0 : Int32) : Option (Int32) :=
  l_X2_openLoans_4 n th_0 v1_0 n (0 : Int32) (0 : Int32)
set_option maxHeartbeats 4000000 in
set_option maxRecDepth 100000 in
theorem c_X2_openLoans (n : Nat) (l : Launch) (k : KT) (a_th : Nat → Nat) (th_0 : OS) (v1_0 : Int32) (res : (Int32)) (hf : f_X2_openLoans n th_0 v1_0 = some res) : CG l k yX2_openLoans cX2_openLoans 4 (some .int) 2 0 0 45 [.ref (a_th 0), .int v1_0] (wCourt k a_th th_0) (Qi k (fun u : Unit => wCourt k a_th th_0) (fun (r : Int32) (u : Unit) => res = r)) := by
  refine CG.ofI (by decide) (Nat.le_of_ble_eq_true rfl) (fun p e s m args below meth c A Q E hnm hW hA hret ls hl => ?_)
  have hl : lv_has ls 4 [(0, .ref (a_th 0)), (1, .int v1_0)] := hl
  unfold f_X2_openLoans at hf
  refine lv_iconst (v := (0 : Int32)) E.hx E.hb dX2_openLoans_0 ic_0 ?_
  refine k_istore_n (lv' := [(2, .int (0 : Int32)), (0, .ref (a_th 0)), (1, .int v1_0)]) E rfl hl dX2_openLoans_1 rfl (by decide) rfl (fun ls hl => ?_)
  refine lv_iconst (v := (0 : Int32)) E.hx E.hb dX2_openLoans_2 ic_0 ?_
  refine k_istore_n (lv' := [(3, .int (0 : Int32)), (2, .int (0 : Int32)), (0, .ref (a_th 0)), (1, .int v1_0)]) E rfl hl dX2_openLoans_3 rfl (by decide) rfl (fun ls hl => ?_)
  have L_4 : ∀ (N_4 : Nat) (w2_j4 : Int32) (w3_j4 : Int32) (H : Heap) (locs : List Loc) (ls : Array Slot) (hW : WD k A s.heap (wCourt k a_th th_0) H locs) (hl : lv_has ls 4 [(0, .ref (a_th 0)), (1, .int v1_0), (2, .int w2_j4), (3, .int w3_j4)]) (hf : l_X2_openLoans_4 n th_0 v1_0 N_4 w2_j4 w3_j4 = some res), W p l e { frames := 2, cells := 0, slots := 0, locals := 45 } s m args below meth c H locs 0 0 Q (F0 m 4 ls []) := by
    intro N_4
    induction N_4 with
    | zero => intro w2_j4 w3_j4 H locs ls hW hl hf; exact o0 hf
    | succ N_4 ih_4 =>
      intro w2_j4 w3_j4 H locs ls hW hl hf
      have hf : s_X2_openLoans_4 n th_0 v1_0 (l_X2_openLoans_4 n th_0 v1_0 N_4) w2_j4 w3_j4 = some res := hf
      unfold s_X2_openLoans_4 at hf
      refine k_iload_n E hl 3 dX2_openLoans_4 rfl ?_
      refine k_aload_n E hl 0 dX2_openLoans_5 rfl ?_
      refine gf_X2_21 E hW 0 rfl rfl dX2_openLoans_6 ?_
      refine lv_icmp_ge (tgt := 38) E.hx E.hb dX2_openLoans_9 (by decide) (fun hc => ?_) (fun hc => ?_)
      · have hf := oT hc hf
        refine k_iload_n E hl 2 dX2_openLoans_38 rfl ?_
        exact hret _ () _ _ _ _ _ _ hW (Option.some.inj hf).symm rfl (by decide) (by decide) dX2_openLoans_39
      · have hf := oF hc hf
        refine k_aload_n E hl 0 dX2_openLoans_12 rfl ?_
        refine k_iload_n E hl 3 dX2_openLoans_13 rfl ?_
        obtain ⟨r_1, hg, hf⟩ := ob hf
        refine k_callVi (As := [.int w3_j4]) (rest := []) (ws2 := fun u => wCourt k a_th th_0) (c_X2_isOpen n l k a_th th_0 w3_j4 r_1 hg) E vl_X2_103 dX2_openLoans_14 rfl [0, 1, 2, 3, 4, 5, 6, 7, 8, 9, 10, 11] 3 0 hW hA hl rfl rfl rfl rfl ⟨by decide, by decide⟩ ⟨by decide, by decide⟩ (Nat.le_of_ble_eq_true rfl) rfl (fun _ => rfl) (fun _ => rfl) (fun r u H locs hp hW => ?_)
        cases hp
        have hW : WD k A s.heap (wCourt k a_th th_0) H locs := hW
        refine lv_if_eq (tgt := 32) E.hx E.hb dX2_openLoans_17 (by decide) (fun hc => ?_) (fun hc => ?_)
        · have hf := oT hc hf
          obtain ⟨v3_2, ev3_2, hf⟩ := oL hf
          refine k_iinc (lv' := [(3, .int v3_2), (0, .ref (a_th 0)), (1, .int v1_0), (2, .int w2_j4)]) E hl 3 dX2_openLoans_32 rfl (ev3_2.trans (congrArg (fun z => w3_j4 + z) ic_1.symm)) (by decide) rfl (fun ls hl => ?_)
          refine lv_goto (tgt := 4) E.hx E.hb dX2_openLoans_35 (by decide) ?_
          exact ih_4 w2_j4 v3_2 _ _ _ hW (lv_sub hl [1, 2, 3, 0] rfl) hf
        · have hf := oF hc hf
          refine k_aload_n E hl 0 dX2_openLoans_20 rfl ?_
          refine k_iload_n E hl 3 dX2_openLoans_21 rfl ?_
          refine k_iload_n E hl 1 dX2_openLoans_22 rfl ?_
          obtain ⟨r_3, hg, hf⟩ := ob hf
          refine k_callVi (As := [.int w3_j4, .int v1_0]) (rest := []) (ws2 := fun u => wCourt k a_th th_0) (c_X2_isLoanOf n l k a_th th_0 w3_j4 v1_0 r_3 hg) E vl_X2_113 dX2_openLoans_23 rfl [0, 1, 2, 3, 4, 5, 6, 7, 8, 9, 10, 11] 3 0 hW hA hl rfl rfl rfl rfl ⟨by decide, by decide⟩ ⟨by decide, by decide⟩ (Nat.le_of_ble_eq_true rfl) rfl (fun _ => rfl) (fun _ => rfl) (fun r u H locs hp hW => ?_)
          cases hp
          have hW : WD k A s.heap (wCourt k a_th th_0) H locs := hW
          refine lv_if_eq (tgt := 32) E.hx E.hb dX2_openLoans_26 (by decide) (fun hc => ?_) (fun hc => ?_)
          · have hf := oT hc hf
            obtain ⟨v3_4, ev3_4, hf⟩ := oL hf
            refine k_iinc (lv' := [(3, .int v3_4), (0, .ref (a_th 0)), (1, .int v1_0), (2, .int w2_j4)]) E hl 3 dX2_openLoans_32 rfl (ev3_4.trans (congrArg (fun z => w3_j4 + z) ic_1.symm)) (by decide) rfl (fun ls hl => ?_)
            refine lv_goto (tgt := 4) E.hx E.hb dX2_openLoans_35 (by decide) ?_
            exact ih_4 w2_j4 v3_4 _ _ _ hW (lv_sub hl [1, 2, 3, 0] rfl) hf
          · have hf := oF hc hf
            obtain ⟨v2_5, ev2_5, hf⟩ := oL hf
            refine k_iinc (lv' := [(2, .int v2_5), (0, .ref (a_th 0)), (1, .int v1_0), (3, .int w3_j4)]) E hl 2 dX2_openLoans_29 rfl (ev2_5.trans (congrArg (fun z => w2_j4 + z) ic_1.symm)) (by decide) rfl (fun ls hl => ?_)
            obtain ⟨v3_6, ev3_6, hf⟩ := oL hf
            refine k_iinc (lv' := [(3, .int v3_6), (2, .int v2_5), (0, .ref (a_th 0)), (1, .int v1_0)]) E hl 3 dX2_openLoans_32 rfl (ev3_6.trans (congrArg (fun z => w3_j4 + z) ic_1.symm)) (by decide) rfl (fun ls hl => ?_)
            refine lv_goto (tgt := 4) E.hx E.hb dX2_openLoans_35 (by decide) ?_
            exact ih_4 v2_5 v3_6 _ _ _ hW (lv_sub hl [2, 3, 1, 0] rfl) hf
  exact L_4 n (0 : Int32) (0 : Int32) _ _ _ hW (lv_sub hl [2, 3, 1, 0] rfl) hf
def s_X2_brokenLoans_4 (n : Nat) (th_0 : OS) (w1_j4 : Int32) (rc_4 : (Int32) → (Int32) → Option (Int32)) (w2_j4 : Int32) (w3_j4 : Int32) : Option (Int32) :=
  if (th_0.1 3) ≤ w3_j4 then (
  some w2_j4) else (
  bnd (f_X2_isBroken n th_0 w3_j4) (fun (r_1 : Int32) =>
  if r_1 = 0 then (
  Let (w3_j4 + (1 : Int32)) (fun v3_2 : Int32 =>
  rc_4 w2_j4 v3_2)) else (
  bnd (f_X2_isLoanOf n th_0 w3_j4 w1_j4) (fun (r_3 : Int32) =>
  if r_3 = 0 then (
  Let (w3_j4 + (1 : Int32)) (fun v3_4 : Int32 =>
  rc_4 w2_j4 v3_4)) else (
  Let (w2_j4 + (1 : Int32)) (fun v2_5 : Int32 =>
  Let (w3_j4 + (1 : Int32)) (fun v3_6 : Int32 =>
  rc_4 v2_5 v3_6)))))))
def l_X2_brokenLoans_4 (n : Nat) (th_0 : OS) (w1_j4 : Int32) : Nat → (Int32) → (Int32) → Option (Int32)
  | 0 => fun _ _ => none
  | N + 1 => s_X2_brokenLoans_4 n th_0 w1_j4 (l_X2_brokenLoans_4 n th_0 w1_j4 N)
def f_X2_brokenLoans (n : Nat) (th_0 : OS) (v1_0 : Int32) : Option (Int32) :=
  l_X2_brokenLoans_4 n th_0 v1_0 n (0 : Int32) (0 : Int32)
set_option maxHeartbeats 4000000 in
set_option maxRecDepth 100000 in
theorem c_X2_brokenLoans (n : Nat) (l : Launch) (k : KT) (a_th : Nat → Nat) (th_0 : OS) (v1_0 : Int32) (res : (Int32)) (hf : f_X2_brokenLoans n th_0 v1_0 = some res) : CG l k yX2_brokenLoans cX2_brokenLoans 4 (some .int) 2 0 0 45 [.ref (a_th 0), .int v1_0] (wCourt k a_th th_0) (Qi k (fun u : Unit => wCourt k a_th th_0) (fun (r : Int32) (u : Unit) => res = r)) := by
  refine CG.ofI (by decide) (Nat.le_of_ble_eq_true rfl) (fun p e s m args below meth c A Q E hnm hW hA hret ls hl => ?_)
  have hl : lv_has ls 4 [(0, .ref (a_th 0)), (1, .int v1_0)] := hl
  unfold f_X2_brokenLoans at hf
  refine lv_iconst (v := (0 : Int32)) E.hx E.hb dX2_brokenLoans_0 ic_0 ?_
  refine k_istore_n (lv' := [(2, .int (0 : Int32)), (0, .ref (a_th 0)), (1, .int v1_0)]) E rfl hl dX2_brokenLoans_1 rfl (by decide) rfl (fun ls hl => ?_)
  refine lv_iconst (v := (0 : Int32)) E.hx E.hb dX2_brokenLoans_2 ic_0 ?_
  refine k_istore_n (lv' := [(3, .int (0 : Int32)), (2, .int (0 : Int32)), (0, .ref (a_th 0)), (1, .int v1_0)]) E rfl hl dX2_brokenLoans_3 rfl (by decide) rfl (fun ls hl => ?_)
  have L_4 : ∀ (N_4 : Nat) (w2_j4 : Int32) (w3_j4 : Int32) (H : Heap) (locs : List Loc) (ls : Array Slot) (hW : WD k A s.heap (wCourt k a_th th_0) H locs) (hl : lv_has ls 4 [(0, .ref (a_th 0)), (1, .int v1_0), (2, .int w2_j4), (3, .int w3_j4)]) (hf : l_X2_brokenLoans_4 n th_0 v1_0 N_4 w2_j4 w3_j4 = some res), W p l e { frames := 2, cells := 0, slots := 0, locals := 45 } s m args below meth c H locs 0 0 Q (F0 m 4 ls []) := by
    intro N_4
    induction N_4 with
    | zero => intro w2_j4 w3_j4 H locs ls hW hl hf; exact o0 hf
    | succ N_4 ih_4 =>
      intro w2_j4 w3_j4 H locs ls hW hl hf
      have hf : s_X2_brokenLoans_4 n th_0 v1_0 (l_X2_brokenLoans_4 n th_0 v1_0 N_4) w2_j4 w3_j4 = some res := hf
      unfold s_X2_brokenLoans_4 at hf
      refine k_iload_n E hl 3 dX2_brokenLoans_4 rfl ?_
      refine k_aload_n E hl 0 dX2_brokenLoans_5 rfl ?_
      refine gf_X2_21 E hW 0 rfl rfl dX2_brokenLoans_6 ?_
      refine lv_icmp_ge (tgt := 38) E.hx E.hb dX2_brokenLoans_9 (by decide) (fun hc => ?_) (fun hc => ?_)
      · have hf := oT hc hf
        refine k_iload_n E hl 2 dX2_brokenLoans_38 rfl ?_
        exact hret _ () _ _ _ _ _ _ hW (Option.some.inj hf).symm rfl (by decide) (by decide) dX2_brokenLoans_39
      · have hf := oF hc hf
        refine k_aload_n E hl 0 dX2_brokenLoans_12 rfl ?_
        refine k_iload_n E hl 3 dX2_brokenLoans_13 rfl ?_
        obtain ⟨r_1, hg, hf⟩ := ob hf
        refine k_callVi (As := [.int w3_j4]) (rest := []) (ws2 := fun u => wCourt k a_th th_0) (c_X2_isBroken n l k a_th th_0 w3_j4 r_1 hg) E vl_X2_107 dX2_brokenLoans_14 rfl [0, 1, 2, 3, 4, 5, 6, 7, 8, 9, 10, 11] 3 0 hW hA hl rfl rfl rfl rfl ⟨by decide, by decide⟩ ⟨by decide, by decide⟩ (Nat.le_of_ble_eq_true rfl) rfl (fun _ => rfl) (fun _ => rfl) (fun r u H locs hp hW => ?_)
        cases hp
        have hW : WD k A s.heap (wCourt k a_th th_0) H locs := hW
        refine lv_if_eq (tgt := 32) E.hx E.hb dX2_brokenLoans_17 (by decide) (fun hc => ?_) (fun hc => ?_)
        · have hf := oT hc hf
          obtain ⟨v3_2, ev3_2, hf⟩ := oL hf
          refine k_iinc (lv' := [(3, .int v3_2), (0, .ref (a_th 0)), (1, .int v1_0), (2, .int w2_j4)]) E hl 3 dX2_brokenLoans_32 rfl (ev3_2.trans (congrArg (fun z => w3_j4 + z) ic_1.symm)) (by decide) rfl (fun ls hl => ?_)
          refine lv_goto (tgt := 4) E.hx E.hb dX2_brokenLoans_35 (by decide) ?_
          exact ih_4 w2_j4 v3_2 _ _ _ hW (lv_sub hl [1, 2, 3, 0] rfl) hf
        · have hf := oF hc hf
          refine k_aload_n E hl 0 dX2_brokenLoans_20 rfl ?_
          refine k_iload_n E hl 3 dX2_brokenLoans_21 rfl ?_
          refine k_iload_n E hl 1 dX2_brokenLoans_22 rfl ?_
          obtain ⟨r_3, hg, hf⟩ := ob hf
          refine k_callVi (As := [.int w3_j4, .int v1_0]) (rest := []) (ws2 := fun u => wCourt k a_th th_0) (c_X2_isLoanOf n l k a_th th_0 w3_j4 v1_0 r_3 hg) E vl_X2_113 dX2_brokenLoans_23 rfl [0, 1, 2, 3, 4, 5, 6, 7, 8, 9, 10, 11] 3 0 hW hA hl rfl rfl rfl rfl ⟨by decide, by decide⟩ ⟨by decide, by decide⟩ (Nat.le_of_ble_eq_true rfl) rfl (fun _ => rfl) (fun _ => rfl) (fun r u H locs hp hW => ?_)
          cases hp
          have hW : WD k A s.heap (wCourt k a_th th_0) H locs := hW
          refine lv_if_eq (tgt := 32) E.hx E.hb dX2_brokenLoans_26 (by decide) (fun hc => ?_) (fun hc => ?_)
          · have hf := oT hc hf
            obtain ⟨v3_4, ev3_4, hf⟩ := oL hf
            refine k_iinc (lv' := [(3, .int v3_4), (0, .ref (a_th 0)), (1, .int v1_0), (2, .int w2_j4)]) E hl 3 dX2_brokenLoans_32 rfl (ev3_4.trans (congrArg (fun z => w3_j4 + z) ic_1.symm)) (by decide) rfl (fun ls hl => ?_)
            refine lv_goto (tgt := 4) E.hx E.hb dX2_brokenLoans_35 (by decide) ?_
            exact ih_4 w2_j4 v3_4 _ _ _ hW (lv_sub hl [1, 2, 3, 0] rfl) hf
          · have hf := oF hc hf
            obtain ⟨v2_5, ev2_5, hf⟩ := oL hf
            refine k_iinc (lv' := [(2, .int v2_5), (0, .ref (a_th 0)), (1, .int v1_0), (3, .int w3_j4)]) E hl 2 dX2_brokenLoans_29 rfl (ev2_5.trans (congrArg (fun z => w2_j4 + z) ic_1.symm)) (by decide) rfl (fun ls hl => ?_)
            obtain ⟨v3_6, ev3_6, hf⟩ := oL hf
            refine k_iinc (lv' := [(3, .int v3_6), (2, .int v2_5), (0, .ref (a_th 0)), (1, .int v1_0)]) E hl 3 dX2_brokenLoans_32 rfl (ev3_6.trans (congrArg (fun z => w3_j4 + z) ic_1.symm)) (by decide) rfl (fun ls hl => ?_)
            refine lv_goto (tgt := 4) E.hx E.hb dX2_brokenLoans_35 (by decide) ?_
            exact ih_4 v2_5 v3_6 _ _ _ hW (lv_sub hl [2, 3, 1, 0] rfl) hf
  exact L_4 n (0 : Int32) (0 : Int32) _ _ _ hW (lv_sub hl [2, 3, 1, 0] rfl) hf
def s_X2_heldPages_4 (n : Nat) (th_0 : OS) (w1_j4 : Int32) (rc_4 : (Int32) → (Int32) → Option (Int32)) (w2_j4 : Int32) (w3_j4 : Int32) : Option (Int32) :=
  if (th_0.1 3) ≤ w3_j4 then (
  some w2_j4) else (
  bnd (f_X2_isLoanOf n th_0 w3_j4 w1_j4) (fun (r_1 : Int32) =>
  if r_1 = 0 then (
  Let (w3_j4 + (1 : Int32)) (fun v3_2 : Int32 =>
  rc_4 w2_j4 v3_2)) else (
  bnd (f_X6_get n (8 : Int32) 640 (th_0.2.1 12) w3_j4 (1 : Int32)) (fun (r_3 : Int32) =>
  Let (w2_j4 + r_3) (fun v2_4 : Int32 =>
  Let (w3_j4 + (1 : Int32)) (fun v3_5 : Int32 =>
  rc_4 v2_4 v3_5))))))
def l_X2_heldPages_4 (n : Nat) (th_0 : OS) (w1_j4 : Int32) : Nat → (Int32) → (Int32) → Option (Int32)
  | 0 => fun _ _ => none
  | N + 1 => s_X2_heldPages_4 n th_0 w1_j4 (l_X2_heldPages_4 n th_0 w1_j4 N)
def f_X2_heldPages (n : Nat) (th_0 : OS) (v1_0 : Int32) : Option (Int32) :=
  l_X2_heldPages_4 n th_0 v1_0 n (0 : Int32) (0 : Int32)
set_option maxHeartbeats 4000000 in
set_option maxRecDepth 100000 in
theorem c_X2_heldPages (n : Nat) (l : Launch) (k : KT) (a_th : Nat → Nat) (th_0 : OS) (v1_0 : Int32) (res : (Int32)) (hf : f_X2_heldPages n th_0 v1_0 = some res) : CG l k yX2_heldPages cX2_heldPages 4 (some .int) 2 0 0 45 [.ref (a_th 0), .int v1_0] (wCourt k a_th th_0) (Qi k (fun u : Unit => wCourt k a_th th_0) (fun (r : Int32) (u : Unit) => res = r)) := by
  refine CG.ofI (by decide) (Nat.le_of_ble_eq_true rfl) (fun p e s m args below meth c A Q E hnm hW hA hret ls hl => ?_)
  have hl : lv_has ls 4 [(0, .ref (a_th 0)), (1, .int v1_0)] := hl
  unfold f_X2_heldPages at hf
  refine lv_iconst (v := (0 : Int32)) E.hx E.hb dX2_heldPages_0 ic_0 ?_
  refine k_istore_n (lv' := [(2, .int (0 : Int32)), (0, .ref (a_th 0)), (1, .int v1_0)]) E rfl hl dX2_heldPages_1 rfl (by decide) rfl (fun ls hl => ?_)
  refine lv_iconst (v := (0 : Int32)) E.hx E.hb dX2_heldPages_2 ic_0 ?_
  refine k_istore_n (lv' := [(3, .int (0 : Int32)), (2, .int (0 : Int32)), (0, .ref (a_th 0)), (1, .int v1_0)]) E rfl hl dX2_heldPages_3 rfl (by decide) rfl (fun ls hl => ?_)
  have L_4 : ∀ (N_4 : Nat) (w2_j4 : Int32) (w3_j4 : Int32) (H : Heap) (locs : List Loc) (ls : Array Slot) (hW : WD k A s.heap (wCourt k a_th th_0) H locs) (hl : lv_has ls 4 [(0, .ref (a_th 0)), (1, .int v1_0), (2, .int w2_j4), (3, .int w3_j4)]) (hf : l_X2_heldPages_4 n th_0 v1_0 N_4 w2_j4 w3_j4 = some res), W p l e { frames := 2, cells := 0, slots := 0, locals := 45 } s m args below meth c H locs 0 0 Q (F0 m 4 ls []) := by
    intro N_4
    induction N_4 with
    | zero => intro w2_j4 w3_j4 H locs ls hW hl hf; exact o0 hf
    | succ N_4 ih_4 =>
      intro w2_j4 w3_j4 H locs ls hW hl hf
      have hf : s_X2_heldPages_4 n th_0 v1_0 (l_X2_heldPages_4 n th_0 v1_0 N_4) w2_j4 w3_j4 = some res := hf
      unfold s_X2_heldPages_4 at hf
      refine k_iload_n E hl 3 dX2_heldPages_4 rfl ?_
      refine k_aload_n E hl 0 dX2_heldPages_5 rfl ?_
      refine gf_X2_21 E hW 0 rfl rfl dX2_heldPages_6 ?_
      refine lv_icmp_ge (tgt := 39) E.hx E.hb dX2_heldPages_9 (by decide) (fun hc => ?_) (fun hc => ?_)
      · have hf := oT hc hf
        refine k_iload_n E hl 2 dX2_heldPages_39 rfl ?_
        exact hret _ () _ _ _ _ _ _ hW (Option.some.inj hf).symm rfl (by decide) (by decide) dX2_heldPages_40
      · have hf := oF hc hf
        refine k_aload_n E hl 0 dX2_heldPages_12 rfl ?_
        refine k_iload_n E hl 3 dX2_heldPages_13 rfl ?_
        refine k_iload_n E hl 1 dX2_heldPages_14 rfl ?_
        obtain ⟨r_1, hg, hf⟩ := ob hf
        refine k_callVi (As := [.int w3_j4, .int v1_0]) (rest := []) (ws2 := fun u => wCourt k a_th th_0) (c_X2_isLoanOf n l k a_th th_0 w3_j4 v1_0 r_1 hg) E vl_X2_113 dX2_heldPages_15 rfl [0, 1, 2, 3, 4, 5, 6, 7, 8, 9, 10, 11] 3 0 hW hA hl rfl rfl rfl rfl ⟨by decide, by decide⟩ ⟨by decide, by decide⟩ (Nat.le_of_ble_eq_true rfl) rfl (fun _ => rfl) (fun _ => rfl) (fun r u H locs hp hW => ?_)
        cases hp
        have hW : WD k A s.heap (wCourt k a_th th_0) H locs := hW
        refine lv_if_eq (tgt := 33) E.hx E.hb dX2_heldPages_18 (by decide) (fun hc => ?_) (fun hc => ?_)
        · have hf := oT hc hf
          obtain ⟨v3_2, ev3_2, hf⟩ := oL hf
          refine k_iinc (lv' := [(3, .int v3_2), (0, .ref (a_th 0)), (1, .int v1_0), (2, .int w2_j4)]) E hl 3 dX2_heldPages_33 rfl (ev3_2.trans (congrArg (fun z => w3_j4 + z) ic_1.symm)) (by decide) rfl (fun ls hl => ?_)
          refine lv_goto (tgt := 4) E.hx E.hb dX2_heldPages_36 (by decide) ?_
          exact ih_4 w2_j4 v3_2 _ _ _ hW (lv_sub hl [1, 2, 3, 0] rfl) hf
        · have hf := oF hc hf
          refine k_iload_n E hl 2 dX2_heldPages_21 rfl ?_
          refine k_aload_n E hl 0 dX2_heldPages_22 rfl ?_
          refine gf_X2_56 E hW 0 rfl rfl dX2_heldPages_23 ?_
          refine k_iload_n E hl 3 dX2_heldPages_26 rfl ?_
          refine lv_iconst (v := (1 : Int32)) E.hx E.hb dX2_heldPages_27 ic_1 ?_
          obtain ⟨r_3, hg, hf⟩ := ob hf
          refine k_callVi (As := [.int w3_j4, .int (1 : Int32)]) (rest := [.int w2_j4]) (ws2 := fun u => wCourt k a_th th_0) (c_X6_get n l k (fun j => a_th (5 + j)) (8 : Int32) 640 (th_0.2.1 12) w3_j4 (1 : Int32) r_3 hg) E vl_X2_100 dX2_heldPages_28 rfl [5, 6] 7 5 hW hA hl rfl rfl rfl rfl ⟨by decide, by decide⟩ ⟨by decide, by decide⟩ (Nat.le_of_ble_eq_true rfl) rfl (fun _ => rfl) (fun _ => rfl) (fun r u H locs hp hW => ?_)
          cases hp
          have hW : WD k A s.heap (wCourt k a_th th_0) H locs := hW
          refine lv_iadd E.hx E.hb dX2_heldPages_31 ?_
          obtain ⟨v2_4, ev2_4, hf⟩ := oL hf
          refine k_istore_n (lv' := [(2, .int v2_4), (0, .ref (a_th 0)), (1, .int v1_0), (3, .int w3_j4)]) E ev2_4 hl dX2_heldPages_32 rfl (by decide) rfl (fun ls hl => ?_)
          obtain ⟨v3_5, ev3_5, hf⟩ := oL hf
          refine k_iinc (lv' := [(3, .int v3_5), (2, .int v2_4), (0, .ref (a_th 0)), (1, .int v1_0)]) E hl 3 dX2_heldPages_33 rfl (ev3_5.trans (congrArg (fun z => w3_j4 + z) ic_1.symm)) (by decide) rfl (fun ls hl => ?_)
          refine lv_goto (tgt := 4) E.hx E.hb dX2_heldPages_36 (by decide) ?_
          exact ih_4 v2_4 v3_5 _ _ _ hW (lv_sub hl [2, 3, 1, 0] rfl) hf
  exact L_4 n (0 : Int32) (0 : Int32) _ _ _ hW (lv_sub hl [2, 3, 1, 0] rfl) hf
def s_X2_brokenPages_4 (n : Nat) (th_0 : OS) (rc_4 : (Int32) → (Int32) → Option (Int32)) (w1_j4 : Int32) (w2_j4 : Int32) : Option (Int32) :=
  if (th_0.1 3) ≤ w2_j4 then (
  some w1_j4) else (
  bnd (f_X2_isBroken n th_0 w2_j4) (fun (r_1 : Int32) =>
  if r_1 = 0 then (
  Let (w2_j4 + (1 : Int32)) (fun v2_2 : Int32 =>
  rc_4 w1_j4 v2_2)) else (
  bnd (f_X6_get n (8 : Int32) 640 (th_0.2.1 12) w2_j4 (1 : Int32)) (fun (r_3 : Int32) =>
  Let (w1_j4 + r_3) (fun v1_4 : Int32 =>
  Let (w2_j4 + (1 : Int32)) (fun v2_5 : Int32 =>
  rc_4 v1_4 v2_5))))))
def l_X2_brokenPages_4 (n : Nat) (th_0 : OS) : Nat → (Int32) → (Int32) → Option (Int32)
  | 0 => fun _ _ => none
  | N + 1 => s_X2_brokenPages_4 n th_0 (l_X2_brokenPages_4 n th_0 N)
def f_X2_brokenPages (n : Nat) (th_0 : OS) : Option (Int32) :=
  l_X2_brokenPages_4 n th_0 n (0 : Int32) (0 : Int32)
set_option maxHeartbeats 4000000 in
set_option maxRecDepth 100000 in
theorem c_X2_brokenPages (n : Nat) (l : Launch) (k : KT) (a_th : Nat → Nat) (th_0 : OS) (res : (Int32)) (hf : f_X2_brokenPages n th_0 = some res) : CG l k yX2_brokenPages cX2_brokenPages 3 (some .int) 2 0 0 44 [.ref (a_th 0)] (wCourt k a_th th_0) (Qi k (fun u : Unit => wCourt k a_th th_0) (fun (r : Int32) (u : Unit) => res = r)) := by
  refine CG.ofI (by decide) (Nat.le_of_ble_eq_true rfl) (fun p e s m args below meth c A Q E hnm hW hA hret ls hl => ?_)
  have hl : lv_has ls 3 [(0, .ref (a_th 0))] := hl
  unfold f_X2_brokenPages at hf
  refine lv_iconst (v := (0 : Int32)) E.hx E.hb dX2_brokenPages_0 ic_0 ?_
  refine k_istore_n (lv' := [(1, .int (0 : Int32)), (0, .ref (a_th 0))]) E rfl hl dX2_brokenPages_1 rfl (by decide) rfl (fun ls hl => ?_)
  refine lv_iconst (v := (0 : Int32)) E.hx E.hb dX2_brokenPages_2 ic_0 ?_
  refine k_istore_n (lv' := [(2, .int (0 : Int32)), (1, .int (0 : Int32)), (0, .ref (a_th 0))]) E rfl hl dX2_brokenPages_3 rfl (by decide) rfl (fun ls hl => ?_)
  have L_4 : ∀ (N_4 : Nat) (w1_j4 : Int32) (w2_j4 : Int32) (H : Heap) (locs : List Loc) (ls : Array Slot) (hW : WD k A s.heap (wCourt k a_th th_0) H locs) (hl : lv_has ls 3 [(0, .ref (a_th 0)), (1, .int w1_j4), (2, .int w2_j4)]) (hf : l_X2_brokenPages_4 n th_0 N_4 w1_j4 w2_j4 = some res), W p l e { frames := 2, cells := 0, slots := 0, locals := 44 } s m args below meth c H locs 0 0 Q (F0 m 4 ls []) := by
    intro N_4
    induction N_4 with
    | zero => intro w1_j4 w2_j4 H locs ls hW hl hf; exact o0 hf
    | succ N_4 ih_4 =>
      intro w1_j4 w2_j4 H locs ls hW hl hf
      have hf : s_X2_brokenPages_4 n th_0 (l_X2_brokenPages_4 n th_0 N_4) w1_j4 w2_j4 = some res := hf
      unfold s_X2_brokenPages_4 at hf
      refine k_iload_n E hl 2 dX2_brokenPages_4 rfl ?_
      refine k_aload_n E hl 0 dX2_brokenPages_5 rfl ?_
      refine gf_X2_21 E hW 0 rfl rfl dX2_brokenPages_6 ?_
      refine lv_icmp_ge (tgt := 38) E.hx E.hb dX2_brokenPages_9 (by decide) (fun hc => ?_) (fun hc => ?_)
      · have hf := oT hc hf
        refine k_iload_n E hl 1 dX2_brokenPages_38 rfl ?_
        exact hret _ () _ _ _ _ _ _ hW (Option.some.inj hf).symm rfl (by decide) (by decide) dX2_brokenPages_39
      · have hf := oF hc hf
        refine k_aload_n E hl 0 dX2_brokenPages_12 rfl ?_
        refine k_iload_n E hl 2 dX2_brokenPages_13 rfl ?_
        obtain ⟨r_1, hg, hf⟩ := ob hf
        refine k_callVi (As := [.int w2_j4]) (rest := []) (ws2 := fun u => wCourt k a_th th_0) (c_X2_isBroken n l k a_th th_0 w2_j4 r_1 hg) E vl_X2_107 dX2_brokenPages_14 rfl [0, 1, 2, 3, 4, 5, 6, 7, 8, 9, 10, 11] 3 0 hW hA hl rfl rfl rfl rfl ⟨by decide, by decide⟩ ⟨by decide, by decide⟩ (Nat.le_of_ble_eq_true rfl) rfl (fun _ => rfl) (fun _ => rfl) (fun r u H locs hp hW => ?_)
        cases hp
        have hW : WD k A s.heap (wCourt k a_th th_0) H locs := hW
        refine lv_if_eq (tgt := 32) E.hx E.hb dX2_brokenPages_17 (by decide) (fun hc => ?_) (fun hc => ?_)
        · have hf := oT hc hf
          obtain ⟨v2_2, ev2_2, hf⟩ := oL hf
          refine k_iinc (lv' := [(2, .int v2_2), (0, .ref (a_th 0)), (1, .int w1_j4)]) E hl 2 dX2_brokenPages_32 rfl (ev2_2.trans (congrArg (fun z => w2_j4 + z) ic_1.symm)) (by decide) rfl (fun ls hl => ?_)
          refine lv_goto (tgt := 4) E.hx E.hb dX2_brokenPages_35 (by decide) ?_
          exact ih_4 w1_j4 v2_2 _ _ _ hW (lv_sub hl [1, 2, 0] rfl) hf
        · have hf := oF hc hf
          refine k_iload_n E hl 1 dX2_brokenPages_20 rfl ?_
          refine k_aload_n E hl 0 dX2_brokenPages_21 rfl ?_
          refine gf_X2_56 E hW 0 rfl rfl dX2_brokenPages_22 ?_
          refine k_iload_n E hl 2 dX2_brokenPages_25 rfl ?_
          refine lv_iconst (v := (1 : Int32)) E.hx E.hb dX2_brokenPages_26 ic_1 ?_
          obtain ⟨r_3, hg, hf⟩ := ob hf
          refine k_callVi (As := [.int w2_j4, .int (1 : Int32)]) (rest := [.int w1_j4]) (ws2 := fun u => wCourt k a_th th_0) (c_X6_get n l k (fun j => a_th (5 + j)) (8 : Int32) 640 (th_0.2.1 12) w2_j4 (1 : Int32) r_3 hg) E vl_X2_100 dX2_brokenPages_27 rfl [5, 6] 7 5 hW hA hl rfl rfl rfl rfl ⟨by decide, by decide⟩ ⟨by decide, by decide⟩ (Nat.le_of_ble_eq_true rfl) rfl (fun _ => rfl) (fun _ => rfl) (fun r u H locs hp hW => ?_)
          cases hp
          have hW : WD k A s.heap (wCourt k a_th th_0) H locs := hW
          refine lv_iadd E.hx E.hb dX2_brokenPages_30 ?_
          obtain ⟨v1_4, ev1_4, hf⟩ := oL hf
          refine k_istore_n (lv' := [(1, .int v1_4), (0, .ref (a_th 0)), (2, .int w2_j4)]) E ev1_4 hl dX2_brokenPages_31 rfl (by decide) rfl (fun ls hl => ?_)
          obtain ⟨v2_5, ev2_5, hf⟩ := oL hf
          refine k_iinc (lv' := [(2, .int v2_5), (1, .int v1_4), (0, .ref (a_th 0))]) E hl 2 dX2_brokenPages_32 rfl (ev2_5.trans (congrArg (fun z => w2_j4 + z) ic_1.symm)) (by decide) rfl (fun ls hl => ?_)
          refine lv_goto (tgt := 4) E.hx E.hb dX2_brokenPages_35 (by decide) ?_
          exact ih_4 v1_4 v2_5 _ _ _ hW (lv_sub hl [2, 1, 0] rfl) hf
  exact L_4 n (0 : Int32) (0 : Int32) _ _ _ hW (lv_sub hl [2, 1, 0] rfl) hf
def s_X2_earliestBroken_9 (n : Nat) (th_0 : OS) (rc_9 : (Int32) → (Int32) → (Int32) → Option (Int32)) (w1_j9 : Int32) (w2_j9 : Int32) (w3_j9 : Int32) : Option (Int32) :=
  if (th_0.1 3) ≤ w3_j9 then (
  some w1_j9) else (
  bnd (f_X6_get n (8 : Int32) 640 (th_0.2.1 12) w3_j9 (2 : Int32)) (fun (r_2 : Int32) =>
  if w2_j9 ≤ r_2 then (
  Let (w3_j9 + (1 : Int32)) (fun v3_3 : Int32 =>
  rc_9 w1_j9 w2_j9 v3_3)) else (
  bnd (f_X6_get n (8 : Int32) 640 (th_0.2.1 12) w3_j9 (1 : Int32)) (fun (r_4 : Int32) =>
  if r_4 ≤ 0 then (
  Let (w3_j9 + (1 : Int32)) (fun v3_5 : Int32 =>
  rc_9 w1_j9 w2_j9 v3_5)) else (
  bnd (f_X6_get n (8 : Int32) 640 (th_0.2.1 12) w3_j9 (2 : Int32)) (fun (r_6 : Int32) =>
  Let (w3_j9 + (1 : Int32)) (fun v3_7 : Int32 =>
  rc_9 w3_j9 r_6 v3_7)))))))
def l_X2_earliestBroken_9 (n : Nat) (th_0 : OS) : Nat → (Int32) → (Int32) → (Int32) → Option (Int32)
  | 0 => fun _ _ _ => none
  | N + 1 => s_X2_earliestBroken_9 n th_0 (l_X2_earliestBroken_9 n th_0 N)
def f_X2_earliestBroken (n : Nat) (th_0 : OS) : Option (Int32) :=
  Let (th_0.1 0) (fun v2_1 : Int32 =>
  l_X2_earliestBroken_9 n th_0 n (-1 : Int32) v2_1 (0 : Int32))
set_option maxHeartbeats 4000000 in
set_option maxRecDepth 100000 in
theorem c_X2_earliestBroken (n : Nat) (l : Launch) (k : KT) (a_th : Nat → Nat) (th_0 : OS) (res : (Int32)) (hf : f_X2_earliestBroken n th_0 = some res) : CG l k yX2_earliestBroken cX2_earliestBroken 4 (some .int) 1 0 0 23 [.ref (a_th 0)] (wCourt k a_th th_0) (Qi k (fun u : Unit => wCourt k a_th th_0) (fun (r : Int32) (u : Unit) => res = r)) := by
  refine CG.ofI (by decide) (Nat.le_of_ble_eq_true rfl) (fun p e s m args below meth c A Q E hnm hW hA hret ls hl => ?_)
  have hl : lv_has ls 4 [(0, .ref (a_th 0))] := hl
  unfold f_X2_earliestBroken at hf
  refine lv_iconst (v := (-1 : Int32)) E.hx E.hb dX2_earliestBroken_0 ic_m1 ?_
  refine k_istore_n (lv' := [(1, .int (-1 : Int32)), (0, .ref (a_th 0))]) E rfl hl dX2_earliestBroken_1 rfl (by decide) rfl (fun ls hl => ?_)
  refine k_aload_n E hl 1 dX2_earliestBroken_2 rfl ?_
  refine gf_X2_9 E hW 0 rfl rfl dX2_earliestBroken_3 ?_
  obtain ⟨v2_1, ev2_1, hf⟩ := oL hf
  refine k_istore_n (lv' := [(2, .int v2_1), (1, .int (-1 : Int32)), (0, .ref (a_th 0))]) E ev2_1 hl dX2_earliestBroken_6 rfl (by decide) rfl (fun ls hl => ?_)
  refine lv_iconst (v := (0 : Int32)) E.hx E.hb dX2_earliestBroken_7 ic_0 ?_
  refine k_istore_n (lv' := [(3, .int (0 : Int32)), (2, .int v2_1), (1, .int (-1 : Int32)), (0, .ref (a_th 0))]) E rfl hl dX2_earliestBroken_8 rfl (by decide) rfl (fun ls hl => ?_)
  have L_9 : ∀ (N_9 : Nat) (w1_j9 : Int32) (w2_j9 : Int32) (w3_j9 : Int32) (H : Heap) (locs : List Loc) (ls : Array Slot) (hW : WD k A s.heap (wCourt k a_th th_0) H locs) (hl : lv_has ls 4 [(0, .ref (a_th 0)), (1, .int w1_j9), (2, .int w2_j9), (3, .int w3_j9)]) (hf : l_X2_earliestBroken_9 n th_0 N_9 w1_j9 w2_j9 w3_j9 = some res), W p l e { frames := 1, cells := 0, slots := 0, locals := 23 } s m args below meth c H locs 0 0 Q (F0 m 9 ls []) := by
    intro N_9
    induction N_9 with
    | zero => intro w1_j9 w2_j9 w3_j9 H locs ls hW hl hf; exact o0 hf
    | succ N_9 ih_9 =>
      intro w1_j9 w2_j9 w3_j9 H locs ls hW hl hf
      have hf : s_X2_earliestBroken_9 n th_0 (l_X2_earliestBroken_9 n th_0 N_9) w1_j9 w2_j9 w3_j9 = some res := hf
      unfold s_X2_earliestBroken_9 at hf
      refine k_iload_n E hl 3 dX2_earliestBroken_9 rfl ?_
      refine k_aload_n E hl 0 dX2_earliestBroken_10 rfl ?_
      refine gf_X2_21 E hW 0 rfl rfl dX2_earliestBroken_11 ?_
      refine lv_icmp_ge (tgt := 60) E.hx E.hb dX2_earliestBroken_14 (by decide) (fun hc => ?_) (fun hc => ?_)
      · have hf := oT hc hf
        refine k_iload_n E hl 1 dX2_earliestBroken_60 rfl ?_
        exact hret _ () _ _ _ _ _ _ hW (Option.some.inj hf).symm rfl (by decide) (by decide) dX2_earliestBroken_61
      · have hf := oF hc hf
        refine k_aload_n E hl 0 dX2_earliestBroken_17 rfl ?_
        refine gf_X2_56 E hW 0 rfl rfl dX2_earliestBroken_18 ?_
        refine k_iload_n E hl 3 dX2_earliestBroken_21 rfl ?_
        refine lv_iconst (v := (2 : Int32)) E.hx E.hb dX2_earliestBroken_22 ic_2 ?_
        obtain ⟨r_2, hg, hf⟩ := ob hf
        refine k_callVi (As := [.int w3_j9, .int (2 : Int32)]) (rest := []) (ws2 := fun u => wCourt k a_th th_0) (c_X6_get n l k (fun j => a_th (5 + j)) (8 : Int32) 640 (th_0.2.1 12) w3_j9 (2 : Int32) r_2 hg) E vl_X2_100 dX2_earliestBroken_23 rfl [5, 6] 7 5 hW hA hl rfl rfl rfl rfl ⟨by decide, by decide⟩ ⟨by decide, by decide⟩ (Nat.le_of_ble_eq_true rfl) rfl (fun _ => rfl) (fun _ => rfl) (fun r u H locs hp hW => ?_)
        cases hp
        have hW : WD k A s.heap (wCourt k a_th th_0) H locs := hW
        refine k_iload_n E hl 2 dX2_earliestBroken_26 rfl ?_
        refine lv_icmp_ge (tgt := 54) E.hx E.hb dX2_earliestBroken_27 (by decide) (fun hc => ?_) (fun hc => ?_)
        · have hf := oT hc hf
          obtain ⟨v3_3, ev3_3, hf⟩ := oL hf
          refine k_iinc (lv' := [(3, .int v3_3), (0, .ref (a_th 0)), (1, .int w1_j9), (2, .int w2_j9)]) E hl 3 dX2_earliestBroken_54 rfl (ev3_3.trans (congrArg (fun z => w3_j9 + z) ic_1.symm)) (by decide) rfl (fun ls hl => ?_)
          refine lv_goto (tgt := 9) E.hx E.hb dX2_earliestBroken_57 (by decide) ?_
          exact ih_9 w1_j9 w2_j9 v3_3 _ _ _ hW (lv_sub hl [1, 2, 3, 0] rfl) hf
        · have hf := oF hc hf
          refine k_aload_n E hl 0 dX2_earliestBroken_30 rfl ?_
          refine gf_X2_56 E hW 0 rfl rfl dX2_earliestBroken_31 ?_
          refine k_iload_n E hl 3 dX2_earliestBroken_34 rfl ?_
          refine lv_iconst (v := (1 : Int32)) E.hx E.hb dX2_earliestBroken_35 ic_1 ?_
          obtain ⟨r_4, hg, hf⟩ := ob hf
          refine k_callVi (As := [.int w3_j9, .int (1 : Int32)]) (rest := []) (ws2 := fun u => wCourt k a_th th_0) (c_X6_get n l k (fun j => a_th (5 + j)) (8 : Int32) 640 (th_0.2.1 12) w3_j9 (1 : Int32) r_4 hg) E vl_X2_100 dX2_earliestBroken_36 rfl [5, 6] 7 5 hW hA hl rfl rfl rfl rfl ⟨by decide, by decide⟩ ⟨by decide, by decide⟩ (Nat.le_of_ble_eq_true rfl) rfl (fun _ => rfl) (fun _ => rfl) (fun r u H locs hp hW => ?_)
          cases hp
          have hW : WD k A s.heap (wCourt k a_th th_0) H locs := hW
          refine lv_if_le (tgt := 54) E.hx E.hb dX2_earliestBroken_39 (by decide) (fun hc => ?_) (fun hc => ?_)
          · have hf := oT hc hf
            obtain ⟨v3_5, ev3_5, hf⟩ := oL hf
            refine k_iinc (lv' := [(3, .int v3_5), (0, .ref (a_th 0)), (1, .int w1_j9), (2, .int w2_j9)]) E hl 3 dX2_earliestBroken_54 rfl (ev3_5.trans (congrArg (fun z => w3_j9 + z) ic_1.symm)) (by decide) rfl (fun ls hl => ?_)
            refine lv_goto (tgt := 9) E.hx E.hb dX2_earliestBroken_57 (by decide) ?_
            exact ih_9 w1_j9 w2_j9 v3_5 _ _ _ hW (lv_sub hl [1, 2, 3, 0] rfl) hf
          · have hf := oF hc hf
            refine k_iload_n E hl 3 dX2_earliestBroken_42 rfl ?_
            refine k_istore_n (lv' := [(1, .int w3_j9), (0, .ref (a_th 0)), (2, .int w2_j9), (3, .int w3_j9)]) E rfl hl dX2_earliestBroken_43 rfl (by decide) rfl (fun ls hl => ?_)
            refine k_aload_n E hl 1 dX2_earliestBroken_44 rfl ?_
            refine gf_X2_56 E hW 0 rfl rfl dX2_earliestBroken_45 ?_
            refine k_iload_n E hl 3 dX2_earliestBroken_48 rfl ?_
            refine lv_iconst (v := (2 : Int32)) E.hx E.hb dX2_earliestBroken_49 ic_2 ?_
            obtain ⟨r_6, hg, hf⟩ := ob hf
            refine k_callVi (As := [.int w3_j9, .int (2 : Int32)]) (rest := []) (ws2 := fun u => wCourt k a_th th_0) (c_X6_get n l k (fun j => a_th (5 + j)) (8 : Int32) 640 (th_0.2.1 12) w3_j9 (2 : Int32) r_6 hg) E vl_X2_100 dX2_earliestBroken_50 rfl [5, 6] 7 5 hW hA hl rfl rfl rfl rfl ⟨by decide, by decide⟩ ⟨by decide, by decide⟩ (Nat.le_of_ble_eq_true rfl) rfl (fun _ => rfl) (fun _ => rfl) (fun r u H locs hp hW => ?_)
            cases hp
            have hW : WD k A s.heap (wCourt k a_th th_0) H locs := hW
            refine k_istore_n (lv' := [(2, .int r_6), (1, .int w3_j9), (0, .ref (a_th 0)), (3, .int w3_j9)]) E rfl hl dX2_earliestBroken_53 rfl (by decide) rfl (fun ls hl => ?_)
            obtain ⟨v3_7, ev3_7, hf⟩ := oL hf
            refine k_iinc (lv' := [(3, .int v3_7), (2, .int r_6), (1, .int w3_j9), (0, .ref (a_th 0))]) E hl 3 dX2_earliestBroken_54 rfl (ev3_7.trans (congrArg (fun z => w3_j9 + z) ic_1.symm)) (by decide) rfl (fun ls hl => ?_)
            refine lv_goto (tgt := 9) E.hx E.hb dX2_earliestBroken_57 (by decide) ?_
            exact ih_9 w3_j9 r_6 v3_7 _ _ _ hW (lv_sub hl [3, 2, 1, 0] rfl) hf
  exact L_9 n (-1 : Int32) v2_1 (0 : Int32) _ _ _ hW (lv_sub hl [3, 2, 1, 0] rfl) hf
