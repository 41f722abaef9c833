theorem tm_110 : (Jvm.Cond.fieldLink "MemoryCourt$Rules" (9 : Nat) "MemoryCourt$Rules" "pages" "I") ∈ lw_tbl := List.mem_of_getElem? (i := 110) (by decide +kernel)
theorem tm_113 : (Jvm.Cond.fieldLink "MemoryCourt$Rules" (15 : Nat) "MemoryCourt$Rules" "processes" "I") ∈ lw_tbl := List.mem_of_getElem? (i := 113) (by decide +kernel)
theorem tm_117 : (Jvm.Cond.fieldLink "MemoryCourt$Rules" (18 : Nat) "MemoryCourt$Rules" "every" "I") ∈ lw_tbl := List.mem_of_getElem? (i := 117) (by decide +kernel)
theorem tm_119 : (Jvm.Cond.fieldLink "MemoryCourt$Rules" (21 : Nat) "MemoryCourt$Rules" "base" "I") ∈ lw_tbl := List.mem_of_getElem? (i := 119) (by decide +kernel)
theorem tm_122 : (Jvm.Cond.fieldLink "MemoryCourt$Rules" (24 : Nat) "MemoryCourt$Rules" "fade" "I") ∈ lw_tbl := List.mem_of_getElem? (i := 122) (by decide +kernel)
theorem tm_124 : (Jvm.Cond.fieldLink "MemoryCourt$Rules" (27 : Nat) "MemoryCourt$Rules" "patience" "I") ∈ lw_tbl := List.mem_of_getElem? (i := 124) (by decide +kernel)
theorem tm_127 : (Jvm.Cond.fieldLink "MemoryCourt$Rules" (30 : Nat) "MemoryCourt$Rules" "appeal" "I") ∈ lw_tbl := List.mem_of_getElem? (i := 127) (by decide +kernel)
theorem tm_129 : (Jvm.Cond.fieldLink "MemoryCourt$Rules" (38 : Nat) "MemoryCourt$Rules" "names" "LMemoryCourt$Table;") ∈ lw_tbl := List.mem_of_getElem? (i := 129) (by decide +kernel)
theorem tm_880 : (Jvm.Cond.methodLink "MemoryCourt$Rules" (63 : Nat) ({ cls := "MemoryCourt$Table", name := "copyFrom", desc := "(LMemoryCourt$Table;)V" } : Jvm.MethodName)) ∈ lw_tbl := List.mem_of_getElem? (i := 880) (by decide +kernel)
theorem tm_533 : (Jvm.Cond.instanceMethod ({ cls := "MemoryCourt$Table", name := "copyFrom", desc := "(LMemoryCourt$Table;)V" } : Jvm.MethodName)) ∈ lw_tbl := List.mem_of_getElem? (i := 533) (by decide +kernel)
theorem tm_534 : (Jvm.Cond.selects "MemoryCourt$Table" ({ cls := "MemoryCourt$Table", name := "copyFrom", desc := "(LMemoryCourt$Table;)V" } : Jvm.MethodName) ({ cls := "MemoryCourt$Table", name := "copyFrom", desc := "(LMemoryCourt$Table;)V" } : Jvm.MethodName)) ∈ lw_tbl := List.mem_of_getElem? (i := 534) (by decide +kernel)
theorem tm_37 : (Jvm.Cond.initialized "MemoryCourt$Table") ∈ lw_tbl := List.mem_of_getElem? (i := 37) (by decide +kernel)
theorem tm_535 : (Jvm.Cond.code ({ cls := "MemoryCourt$Table", name := "copyFrom", desc := "(LMemoryCourt$Table;)V" } : Jvm.MethodName) prog_8_method_6_code (2 : Nat) (Option.none : Option Jvm.ClassFile.FieldType)) ∈ lw_tbl := List.mem_of_getElem? (i := 535) (by decide +kernel)
theorem tm_840 : (Jvm.Cond.methodLink "MemoryCourt$Rules" (83 : Nat) ({ cls := "MemoryCourt$Table", name := "set", desc := "(III)V" } : Jvm.MethodName)) ∈ lw_tbl := List.mem_of_getElem? (i := 840) (by decide +kernel)
theorem tm_561 : (Jvm.Cond.instanceMethod ({ cls := "MemoryCourt$Table", name := "set", desc := "(III)V" } : Jvm.MethodName)) ∈ lw_tbl := List.mem_of_getElem? (i := 561) (by decide +kernel)
theorem tm_562 : (Jvm.Cond.selects "MemoryCourt$Table" ({ cls := "MemoryCourt$Table", name := "set", desc := "(III)V" } : Jvm.MethodName) ({ cls := "MemoryCourt$Table", name := "set", desc := "(III)V" } : Jvm.MethodName)) ∈ lw_tbl := List.mem_of_getElem? (i := 562) (by decide +kernel)
theorem tm_563 : (Jvm.Cond.code ({ cls := "MemoryCourt$Table", name := "set", desc := "(III)V" } : Jvm.MethodName) prog_8_method_3_code (5 : Nat) (Option.none : Option Jvm.ClassFile.FieldType)) ∈ lw_tbl := List.mem_of_getElem? (i := 563) (by decide +kernel)
theorem tm_835 : (Jvm.Cond.methodLink "MemoryCourt$Rules" (77 : Nat) ({ cls := "MemoryCourt$Bytes", name := "at", desc := "(I)I" } : Jvm.MethodName)) ∈ lw_tbl := List.mem_of_getElem? (i := 835) (by decide +kernel)
theorem tm_775 : (Jvm.Cond.instanceMethod ({ cls := "MemoryCourt$Bytes", name := "at", desc := "(I)I" } : Jvm.MethodName)) ∈ lw_tbl := List.mem_of_getElem? (i := 775) (by decide +kernel)
theorem tm_776 : (Jvm.Cond.selects "MemoryCourt$Bytes" ({ cls := "MemoryCourt$Bytes", name := "at", desc := "(I)I" } : Jvm.MethodName) ({ cls := "MemoryCourt$Bytes", name := "at", desc := "(I)I" } : Jvm.MethodName)) ∈ lw_tbl := List.mem_of_getElem? (i := 776) (by decide +kernel)
theorem tm_777 : (Jvm.Cond.code ({ cls := "MemoryCourt$Bytes", name := "at", desc := "(I)I" } : Jvm.MethodName) prog_3_method_2_code (2 : Nat) (Option.some Jvm.ClassFile.FieldType.int)) ∈ lw_tbl := List.mem_of_getElem? (i := 777) (by decide +kernel)
theorem tm_834 : (Jvm.Cond.methodLink "MemoryCourt$Rules" (91 : Nat) ({ cls := "MemoryCourt$Table", name := "get", desc := "(II)I" } : Jvm.MethodName)) ∈ lw_tbl := List.mem_of_getElem? (i := 834) (by decide +kernel)
theorem tm_358 : (Jvm.Cond.instanceMethod ({ cls := "MemoryCourt$Table", name := "get", desc := "(II)I" } : Jvm.MethodName)) ∈ lw_tbl := List.mem_of_getElem? (i := 358) (by decide +kernel)
theorem tm_359 : (Jvm.Cond.selects "MemoryCourt$Table" ({ cls := "MemoryCourt$Table", name := "get", desc := "(II)I" } : Jvm.MethodName) ({ cls := "MemoryCourt$Table", name := "get", desc := "(II)I" } : Jvm.MethodName)) ∈ lw_tbl := List.mem_of_getElem? (i := 359) (by decide +kernel)
theorem tm_360 : (Jvm.Cond.code ({ cls := "MemoryCourt$Table", name := "get", desc := "(II)I" } : Jvm.MethodName) prog_8_method_2_code (4 : Nat) (Option.some Jvm.ClassFile.FieldType.int)) ∈ lw_tbl := List.mem_of_getElem? (i := 360) (by decide +kernel)
theorem tm_830 : (Jvm.Cond.methodLink "MemoryCourt$Rules" (87 : Nat) ({ cls := "MemoryCourt$Rules", name := "isNamed", desc := "(ILMemoryCourt$Bytes;II)Z" } : Jvm.MethodName)) ∈ lw_tbl := List.mem_of_getElem? (i := 830) (by decide +kernel)
theorem tm_832 : (Jvm.Cond.instanceMethod ({ cls := "MemoryCourt$Rules", name := "isNamed", desc := "(ILMemoryCourt$Bytes;II)Z" } : Jvm.MethodName)) ∈ lw_tbl := List.mem_of_getElem? (i := 832) (by decide +kernel)
theorem tms_25 : (Jvm.Cond.selects "MemoryCourt$Rules" ({ cls := "MemoryCourt$Rules", name := "isNamed", desc := "(ILMemoryCourt$Bytes;II)Z" } : Jvm.MethodName) ({ cls := "MemoryCourt$Rules", name := "isNamed", desc := "(ILMemoryCourt$Bytes;II)Z" } : Jvm.MethodName)) ∈ lw_tbl := List.mem_of_getElem? (i := 25) (by decide +kernel)
theorem tm_36 : (Jvm.Cond.initialized "MemoryCourt$Rules") ∈ lw_tbl := List.mem_of_getElem? (i := 36) (by decide +kernel)
theorem tm_833 : (Jvm.Cond.code ({ cls := "MemoryCourt$Rules", name := "isNamed", desc := "(ILMemoryCourt$Bytes;II)Z" } : Jvm.MethodName) prog_7_method_7_code (6 : Nat) (Option.some Jvm.ClassFile.FieldType.boolean)) ∈ lw_tbl := List.mem_of_getElem? (i := 833) (by decide +kernel)
theorem bp_6 : (Int8.ofInt (6)).toInt32 = (6 : Int32) := by decide
theorem gf_X5_9 {p : Program} {l : Launch} {e : Env} {R : Room} {s : State} {m : MethodId} {args : Array Value} {below : List Frame} {meth : Method} {c : Code} {H : Heap} {locs : List Loc} {cells slots : Nat} {Q : State → Prop} {cc : ByteArray} {pc nL : Nat} {ls : Array Slot} {rest : List Value} {k : KT} {A : Nat → Prop} {ws : va_W} {H0 : Heap} {a : Nat} (E : E0 p s m c cc nL RX5 k A) (hW : WD k A H0 ws H locs) (q0 : Nat) {fs : List Value} (he : ws[q0]? = some (a, .inr (6, fs))) {v : Value} (hv : fs[0]? = some v) (hdg : decode cc pc = .ok (.getfield 9, 3)) (q : W p l e R s m args below meth c H locs cells slots Q (F0 m (pc + 3) ls (v :: rest))) : W p l e R s m args below meth c H locs cells slots Q (F0 m pc ls (.ref a :: rest)) := va_get (C := RX5) (T := TX5) (N := 8) (ci := 6) E.hx E.hb (Ts := wsX50) (fun w hw => E.w (inX5 w hw) (tbl_laysX5 w hw)) (fun _ h => h) E.ho E.hK hW.1 q0 he rfl 0 (by decide) (E.w tm_110 rfl) (fun _ h => h) hv hdg q
theorem pf_X5_9 {p : Program} {l : Launch} {e : Env} {R : Room} {s : State} {m : MethodId} {args : Array Value} {below : List Frame} {meth : Method} {c : Code} {H : Heap} {locs : List Loc} {cells slots : Nat} {Q : State → Prop} {cc : ByteArray} {pc nL : Nat} {ls : Array Slot} {rest : List Value} {k : KT} {A : Nat → Prop} {ws ws2 : va_W} {H0 : Heap} {a : Nat} (E : E0 p s m c cc nL RX5 k A) (hW : WD k A H0 ws H locs) (q0 : Nat) {fs : List Value} (he : ws[q0]? = some (a, .inr (6, fs))) {v : Value} (hn : narrow (tyX5 0) v = v) (hfit : fits (tyX5 0) v = true) (hl : 0 < fs.length) (hdg : decode cc pc = .ok (.putfield 9, 3)) (hws : ws.set q0 (a, .inr (6, fs.set 0 v)) = ws2) (q : ∀ (H1 : Heap) (locs1 : List Loc), WD k A H0 ws2 H1 locs1 → W p l e R s m args below meth c H1 locs1 cells slots Q (F0 m (pc + 3) ls rest)) : W p l e R s m args below meth c H locs cells slots Q (F0 m pc ls (v :: .ref a :: rest)) := by
  subst hws
  exact va_put (C := RX5) (T := TX5) (N := 8) (ci := 6) (ty := tyX5 0) E.hx E.hb (Ts := wsX50) (fun w hw => E.w (inX5 w hw) (tbl_laysX5 w hw)) (fun _ h => h) tyX5 tyX5_ok nmX5 E.ho E.hK hW.1 hW.2.1 hW.2.2 q0 he rfl 0 (by decide) (E.w tm_110 rfl) (fun _ h => h) rfl (tyX5_ok 0 (by decide)) hn hfit hl hdg (fun H1 locs1 h1 h2 h3 => q H1 locs1 ⟨h1, h2, h3⟩)
theorem gf_X5_15 {p : Program} {l : Launch} {e : Env} {R : Room} {s : State} {m : MethodId} {args : Array Value} {below : List Frame} {meth : Method} {c : Code} {H : Heap} {locs : List Loc} {cells slots : Nat} {Q : State → Prop} {cc : ByteArray} {pc nL : Nat} {ls : Array Slot} {rest : List Value} {k : KT} {A : Nat → Prop} {ws : va_W} {H0 : Heap} {a : Nat} (E : E0 p s m c cc nL RX5 k A) (hW : WD k A H0 ws H locs) (q0 : Nat) {fs : List Value} (he : ws[q0]? = some (a, .inr (6, fs))) {v : Value} (hv : fs[1]? = some v) (hdg : decode cc pc = .ok (.getfield 15, 3)) (q : W p l e R s m args below meth c H locs cells slots Q (F0 m (pc + 3) ls (v :: rest))) : W p l e R s m args below meth c H locs cells slots Q (F0 m pc ls (.ref a :: rest)) := va_get (C := RX5) (T := TX5) (N := 8) (ci := 6) E.hx E.hb (Ts := wsX50) (fun w hw => E.w (inX5 w hw) (tbl_laysX5 w hw)) (fun _ h => h) E.ho E.hK hW.1 q0 he rfl 1 (by decide) (E.w tm_113 rfl) (fun _ h => h) hv hdg q
theorem pf_X5_15 {p : Program} {l : Launch} {e : Env} {R : Room} {s : State} {m : MethodId} {args : Array Value} {below : List Frame} {meth : Method} {c : Code} {H : Heap} {locs : List Loc} {cells slots : Nat} {Q : State → Prop} {cc : ByteArray} {pc nL : Nat} {ls : Array Slot} {rest : List Value} {k : KT} {A : Nat → Prop} {ws ws2 : va_W} {H0 : Heap} {a : Nat} (E : E0 p s m c cc nL RX5 k A) (hW : WD k A H0 ws H locs) (q0 : Nat) {fs : List Value} (he : ws[q0]? = some (a, .inr (6, fs))) {v : Value} (hn : narrow (tyX5 1) v = v) (hfit : fits (tyX5 1) v = true) (hl : 1 < fs.length) (hdg : decode cc pc = .ok (.putfield 15, 3)) (hws : ws.set q0 (a, .inr (6, fs.set 1 v)) = ws2) (q : ∀ (H1 : Heap) (locs1 : List Loc), WD k A H0 ws2 H1 locs1 → W p l e R s m args below meth c H1 locs1 cells slots Q (F0 m (pc + 3) ls rest)) : W p l e R s m args below meth c H locs cells slots Q (F0 m pc ls (v :: .ref a :: rest)) := by
  subst hws
  exact va_put (C := RX5) (T := TX5) (N := 8) (ci := 6) (ty := tyX5 1) E.hx E.hb (Ts := wsX50) (fun w hw => E.w (inX5 w hw) (tbl_laysX5 w hw)) (fun _ h => h) tyX5 tyX5_ok nmX5 E.ho E.hK hW.1 hW.2.1 hW.2.2 q0 he rfl 1 (by decide) (E.w tm_113 rfl) (fun _ h => h) rfl (tyX5_ok 1 (by decide)) hn hfit hl hdg (fun H1 locs1 h1 h2 h3 => q H1 locs1 ⟨h1, h2, h3⟩)
theorem gf_X5_18 {p : Program} {l : Launch} {e : Env} {R : Room} {s : State} {m : MethodId} {args : Array Value} {below : List Frame} {meth : Method} {c : Code} {H : Heap} {locs : List Loc} {cells slots : Nat} {Q : State → Prop} {cc : ByteArray} {pc nL : Nat} {ls : Array Slot} {rest : List Value} {k : KT} {A : Nat → Prop} {ws : va_W} {H0 : Heap} {a : Nat} (E : E0 p s m c cc nL RX5 k A) (hW : WD k A H0 ws H locs) (q0 : Nat) {fs : List Value} (he : ws[q0]? = some (a, .inr (6, fs))) {v : Value} (hv : fs[2]? = some v) (hdg : decode cc pc = .ok (.getfield 18, 3)) (q : W p l e R s m args below meth c H locs cells slots Q (F0 m (pc + 3) ls (v :: rest))) : W p l e R s m args below meth c H locs cells slots Q (F0 m pc ls (.ref a :: rest)) := va_get (C := RX5) (T := TX5) (N := 8) (ci := 6) E.hx E.hb (Ts := wsX50) (fun w hw => E.w (inX5 w hw) (tbl_laysX5 w hw)) (fun _ h => h) E.ho E.hK hW.1 q0 he rfl 2 (by decide) (E.w tm_117 rfl) (fun _ h => h) hv hdg q
theorem pf_X5_18 {p : Program} {l : Launch} {e : Env} {R : Room} {s : State} {m : MethodId} {args : Array Value} {below : List Frame} {meth : Method} {c : Code} {H : Heap} {locs : List Loc} {cells slots : Nat} {Q : State → Prop} {cc : ByteArray} {pc nL : Nat} {ls : Array Slot} {rest : List Value} {k : KT} {A : Nat → Prop} {ws ws2 : va_W} {H0 : Heap} {a : Nat} (E : E0 p s m c cc nL RX5 k A) (hW : WD k A H0 ws H locs) (q0 : Nat) {fs : List Value} (he : ws[q0]? = some (a, .inr (6, fs))) {v : Value} (hn : narrow (tyX5 2) v = v) (hfit : fits (tyX5 2) v = true) (hl : 2 < fs.length) (hdg : decode cc pc = .ok (.putfield 18, 3)) (hws : ws.set q0 (a, .inr (6, fs.set 2 v)) = ws2) (q : ∀ (H1 : Heap) (locs1 : List Loc), WD k A H0 ws2 H1 locs1 → W p l e R s m args below meth c H1 locs1 cells slots Q (F0 m (pc + 3) ls rest)) : W p l e R s m args below meth c H locs cells slots Q (F0 m pc ls (v :: .ref a :: rest)) := by
  subst hws
  exact va_put (C := RX5) (T := TX5) (N := 8) (ci := 6) (ty := tyX5 2) E.hx E.hb (Ts := wsX50) (fun w hw => E.w (inX5 w hw) (tbl_laysX5 w hw)) (fun _ h => h) tyX5 tyX5_ok nmX5 E.ho E.hK hW.1 hW.2.1 hW.2.2 q0 he rfl 2 (by decide) (E.w tm_117 rfl) (fun _ h => h) rfl (tyX5_ok 2 (by decide)) hn hfit hl hdg (fun H1 locs1 h1 h2 h3 => q H1 locs1 ⟨h1, h2, h3⟩)
theorem gf_X5_21 {p : Program} {l : Launch} {e : Env} {R : Room} {s : State} {m : MethodId} {args : Array Value} {below : List Frame} {meth : Method} {c : Code} {H : Heap} {locs : List Loc} {cells slots : Nat} {Q : State → Prop} {cc : ByteArray} {pc nL : Nat} {ls : Array Slot} {rest : List Value} {k : KT} {A : Nat → Prop} {ws : va_W} {H0 : Heap} {a : Nat} (E : E0 p s m c cc nL RX5 k A) (hW : WD k A H0 ws H locs) (q0 : Nat) {fs : List Value} (he : ws[q0]? = some (a, .inr (6, fs))) {v : Value} (hv : fs[3]? = some v) (hdg : decode cc pc = .ok (.getfield 21, 3)) (q : W p l e R s m args below meth c H locs cells slots Q (F0 m (pc + 3) ls (v :: rest))) : W p l e R s m args below meth c H locs cells slots Q (F0 m pc ls (.ref a :: rest)) := va_get (C := RX5) (T := TX5) (N := 8) (ci := 6) E.hx E.hb (Ts := wsX50) (fun w hw => E.w (inX5 w hw) (tbl_laysX5 w hw)) (fun _ h => h) E.ho E.hK hW.1 q0 he rfl 3 (by decide) (E.w tm_119 rfl) (fun _ h => h) hv hdg q
theorem pf_X5_21 {p : Program} {l : Launch} {e : Env} {R : Room} {s : State} {m : MethodId} {args : Array Value} {below : List Frame} {meth : Method} {c : Code} {H : Heap} {locs : List Loc} {cells slots : Nat} {Q : State → Prop} {cc : ByteArray} {pc nL : Nat} {ls : Array Slot} {rest : List Value} {k : KT} {A : Nat → Prop} {ws ws2 : va_W} {H0 : Heap} {a : Nat} (E : E0 p s m c cc nL RX5 k A) (hW : WD k A H0 ws H locs) (q0 : Nat) {fs : List Value} (he : ws[q0]? = some (a, .inr (6, fs))) {v : Value} (hn : narrow (tyX5 3) v = v) (hfit : fits (tyX5 3) v = true) (hl : 3 < fs.length) (hdg : decode cc pc = .ok (.putfield 21, 3)) (hws : ws.set q0 (a, .inr (6, fs.set 3 v)) = ws2) (q : ∀ (H1 : Heap) (locs1 : List Loc), WD k A H0 ws2 H1 locs1 → W p l e R s m args below meth c H1 locs1 cells slots Q (F0 m (pc + 3) ls rest)) : W p l e R s m args below meth c H locs cells slots Q (F0 m pc ls (v :: .ref a :: rest)) := by
  subst hws
  exact va_put (C := RX5) (T := TX5) (N := 8) (ci := 6) (ty := tyX5 3) E.hx E.hb (Ts := wsX50) (fun w hw => E.w (inX5 w hw) (tbl_laysX5 w hw)) (fun _ h => h) tyX5 tyX5_ok nmX5 E.ho E.hK hW.1 hW.2.1 hW.2.2 q0 he rfl 3 (by decide) (E.w tm_119 rfl) (fun _ h => h) rfl (tyX5_ok 3 (by decide)) hn hfit hl hdg (fun H1 locs1 h1 h2 h3 => q H1 locs1 ⟨h1, h2, h3⟩)
theorem gf_X5_24 {p : Program} {l : Launch} {e : Env} {R : Room} {s : State} {m : MethodId} {args : Array Value} {below : List Frame} {meth : Method} {c : Code} {H : Heap} {locs : List Loc} {cells slots : Nat} {Q : State → Prop} {cc : ByteArray} {pc nL : Nat} {ls : Array Slot} {rest : List Value} {k : KT} {A : Nat → Prop} {ws : va_W} {H0 : Heap} {a : Nat} (E : E0 p s m c cc nL RX5 k A) (hW : WD k A H0 ws H locs) (q0 : Nat) {fs : List Value} (he : ws[q0]? = some (a, .inr (6, fs))) {v : Value} (hv : fs[4]? = some v) (hdg : decode cc pc = .ok (.getfield 24, 3)) (q : W p l e R s m args below meth c H locs cells slots Q (F0 m (pc + 3) ls (v :: rest))) : W p l e R s m args below meth c H locs cells slots Q (F0 m pc ls (.ref a :: rest)) := va_get (C := RX5) (T := TX5) (N := 8) (ci := 6) E.hx E.hb (Ts := wsX50) (fun w hw => E.w (inX5 w hw) (tbl_laysX5 w hw)) (fun _ h => h) E.ho E.hK hW.1 q0 he rfl 4 (by decide) (E.w tm_122 rfl) (fun _ h => h) hv hdg q
theorem pf_X5_24 {p : Program} {l : Launch} {e : Env} {R : Room} {s : State} {m : MethodId} {args : Array Value} {below : List Frame} {meth : Method} {c : Code} {H : Heap} {locs : List Loc} {cells slots : Nat} {Q : State → Prop} {cc : ByteArray} {pc nL : Nat} {ls : Array Slot} {rest : List Value} {k : KT} {A : Nat → Prop} {ws ws2 : va_W} {H0 : Heap} {a : Nat} (E : E0 p s m c cc nL RX5 k A) (hW : WD k A H0 ws H locs) (q0 : Nat) {fs : List Value} (he : ws[q0]? = some (a, .inr (6, fs))) {v : Value} (hn : narrow (tyX5 4) v = v) (hfit : fits (tyX5 4) v = true) (hl : 4 < fs.length) (hdg : decode cc pc = .ok (.putfield 24, 3)) (hws : ws.set q0 (a, .inr (6, fs.set 4 v)) = ws2) (q : ∀ (H1 : Heap) (locs1 : List Loc), WD k A H0 ws2 H1 locs1 → W p l e R s m args below meth c H1 locs1 cells slots Q (F0 m (pc + 3) ls rest)) : W p l e R s m args below meth c H locs cells slots Q (F0 m pc ls (v :: .ref a :: rest)) := by
  subst hws
  exact va_put (C := RX5) (T := TX5) (N := 8) (ci := 6) (ty := tyX5 4) E.hx E.hb (Ts := wsX50) (fun w hw => E.w (inX5 w hw) (tbl_laysX5 w hw)) (fun _ h => h) tyX5 tyX5_ok nmX5 E.ho E.hK hW.1 hW.2.1 hW.2.2 q0 he rfl 4 (by decide) (E.w tm_122 rfl) (fun _ h => h) rfl (tyX5_ok 4 (by decide)) hn hfit hl hdg (fun H1 locs1 h1 h2 h3 => q H1 locs1 ⟨h1, h2, h3⟩)
theorem gf_X5_27 {p : Program} {l : Launch} {e : Env} {R : Room} {s : State} {m : MethodId} {args : Array Value} {below : List Frame} {meth : Method} {c : Code} {H : Heap} {locs : List Loc} {cells slots : Nat} {Q : State → Prop} {cc : ByteArray} {pc nL : Nat} {ls : Array Slot} {rest : List Value} {k : KT} {A : Nat → Prop} {ws : va_W} {H0 : Heap} {a : Nat} (E : E0 p s m c cc nL RX5 k A) (hW : WD k A H0 ws H locs) (q0 : Nat) {fs : List Value} (he : ws[q0]? = some (a, .inr (6, fs))) {v : Value} (hv : fs[5]? = some v) (hdg : decode cc pc = .ok (.getfield 27, 3)) (q : W p l e R s m args below meth c H locs cells slots Q (F0 m (pc + 3) ls (v :: rest))) : W p l e R s m args below meth c H locs cells slots Q (F0 m pc ls (.ref a :: rest)) := va_get (C := RX5) (T := TX5) (N := 8) (ci := 6) E.hx E.hb (Ts := wsX50) (fun w hw => E.w (inX5 w hw) (tbl_laysX5 w hw)) (fun _ h => h) E.ho E.hK hW.1 q0 he rfl 5 (by decide) (E.w tm_124 rfl) (fun _ h => h) hv hdg q
theorem pf_X5_27 {p : Program} {l : Launch} {e : Env} {R : Room} {s : State} {m : MethodId} {args : Array Value} {below : List Frame} {meth : Method} {c : Code} {H : Heap} {locs : List Loc} {cells slots : Nat} {Q : State → Prop} {cc : ByteArray} {pc nL : Nat} {ls : Array Slot} {rest : List Value} {k : KT} {A : Nat → Prop} {ws ws2 : va_W} {H0 : Heap} {a : Nat} (E : E0 p s m c cc nL RX5 k A) (hW : WD k A H0 ws H locs) (q0 : Nat) {fs : List Value} (he : ws[q0]? = some (a, .inr (6, fs))) {v : Value} (hn : narrow (tyX5 5) v = v) (hfit : fits (tyX5 5) v = true) (hl : 5 < fs.length) (hdg : decode cc pc = .ok (.putfield 27, 3)) (hws : ws.set q0 (a, .inr (6, fs.set 5 v)) = ws2) (q : ∀ (H1 : Heap) (locs1 : List Loc), WD k A H0 ws2 H1 locs1 → W p l e R s m args below meth c H1 locs1 cells slots Q (F0 m (pc + 3) ls rest)) : W p l e R s m args below meth c H locs cells slots Q (F0 m pc ls (v :: .ref a :: rest)) := by
  subst hws
  exact va_put (C := RX5) (T := TX5) (N := 8) (ci := 6) (ty := tyX5 5) E.hx E.hb (Ts := wsX50) (fun w hw => E.w (inX5 w hw) (tbl_laysX5 w hw)) (fun _ h => h) tyX5 tyX5_ok nmX5 E.ho E.hK hW.1 hW.2.1 hW.2.2 q0 he rfl 5 (by decide) (E.w tm_124 rfl) (fun _ h => h) rfl (tyX5_ok 5 (by decide)) hn hfit hl hdg (fun H1 locs1 h1 h2 h3 => q H1 locs1 ⟨h1, h2, h3⟩)
theorem gf_X5_30 {p : Program} {l : Launch} {e : Env} {R : Room} {s : State} {m : MethodId} {args : Array Value} {below : List Frame} {meth : Method} {c : Code} {H : Heap} {locs : List Loc} {cells slots : Nat} {Q : State → Prop} {cc : ByteArray} {pc nL : Nat} {ls : Array Slot} {rest : List Value} {k : KT} {A : Nat → Prop} {ws : va_W} {H0 : Heap} {a : Nat} (E : E0 p s m c cc nL RX5 k A) (hW : WD k A H0 ws H locs) (q0 : Nat) {fs : List Value} (he : ws[q0]? = some (a, .inr (6, fs))) {v : Value} (hv : fs[6]? = some v) (hdg : decode cc pc = .ok (.getfield 30, 3)) (q : W p l e R s m args below meth c H locs cells slots Q (F0 m (pc + 3) ls (v :: rest))) : W p l e R s m args below meth c H locs cells slots Q (F0 m pc ls (.ref a :: rest)) := va_get (C := RX5) (T := TX5) (N := 8) (ci := 6) E.hx E.hb (Ts := wsX50) (fun w hw => E.w (inX5 w hw) (tbl_laysX5 w hw)) (fun _ h => h) E.ho E.hK hW.1 q0 he rfl 6 (by decide) (E.w tm_127 rfl) (fun _ h => h) hv hdg q
theorem pf_X5_30 {p : Program} {l : Launch} {e : Env} {R : Room} {s : State} {m : MethodId} {args : Array Value} {below : List Frame} {meth : Method} {c : Code} {H : Heap} {locs : List Loc} {cells slots : Nat} {Q : State → Prop} {cc : ByteArray} {pc nL : Nat} {ls : Array Slot} {rest : List Value} {k : KT} {A : Nat → Prop} {ws ws2 : va_W} {H0 : Heap} {a : Nat} (E : E0 p s m c cc nL RX5 k A) (hW : WD k A H0 ws H locs) (q0 : Nat) {fs : List Value} (he : ws[q0]? = some (a, .inr (6, fs))) {v : Value} (hn : narrow (tyX5 6) v = v) (hfit : fits (tyX5 6) v = true) (hl : 6 < fs.length) (hdg : decode cc pc = .ok (.putfield 30, 3)) (hws : ws.set q0 (a, .inr (6, fs.set 6 v)) = ws2) (q : ∀ (H1 : Heap) (locs1 : List Loc), WD k A H0 ws2 H1 locs1 → W p l e R s m args below meth c H1 locs1 cells slots Q (F0 m (pc + 3) ls rest)) : W p l e R s m args below meth c H locs cells slots Q (F0 m pc ls (v :: .ref a :: rest)) := by
  subst hws
  exact va_put (C := RX5) (T := TX5) (N := 8) (ci := 6) (ty := tyX5 6) E.hx E.hb (Ts := wsX50) (fun w hw => E.w (inX5 w hw) (tbl_laysX5 w hw)) (fun _ h => h) tyX5 tyX5_ok nmX5 E.ho E.hK hW.1 hW.2.1 hW.2.2 q0 he rfl 6 (by decide) (E.w tm_127 rfl) (fun _ h => h) rfl (tyX5_ok 6 (by decide)) hn hfit hl hdg (fun H1 locs1 h1 h2 h3 => q H1 locs1 ⟨h1, h2, h3⟩)
theorem gf_X5_38 {p : Program} {l : Launch} {e : Env} {R : Room} {s : State} {m : MethodId} {args : Array Value} {below : List Frame} {meth : Method} {c : Code} {H : Heap} {locs : List Loc} {cells slots : Nat} {Q : State → Prop} {cc : ByteArray} {pc nL : Nat} {ls : Array Slot} {rest : List Value} {k : KT} {A : Nat → Prop} {ws : va_W} {H0 : Heap} {a : Nat} (E : E0 p s m c cc nL RX5 k A) (hW : WD k A H0 ws H locs) (q0 : Nat) {fs : List Value} (he : ws[q0]? = some (a, .inr (6, fs))) {v : Value} (hv : fs[7]? = some v) (hdg : decode cc pc = .ok (.getfield 38, 3)) (q : W p l e R s m args below meth c H locs cells slots Q (F0 m (pc + 3) ls (v :: rest))) : W p l e R s m args below meth c H locs cells slots Q (F0 m pc ls (.ref a :: rest)) := va_get (C := RX5) (T := TX5) (N := 8) (ci := 6) E.hx E.hb (Ts := wsX50) (fun w hw => E.w (inX5 w hw) (tbl_laysX5 w hw)) (fun _ h => h) E.ho E.hK hW.1 q0 he rfl 7 (by decide) (E.w tm_129 rfl) (fun _ h => h) hv hdg q
theorem vl_X5_63 : VL RX5 63 RX6 yX6_copyFrom cX6_copyFrom 2 none 1 := ⟨⟨tm_880, tm_533, tm_534, tm_37, tm_535⟩, by decide +kernel⟩
theorem vl_X5_83 : VL RX5 83 RX6 yX6_set cX6_set 5 none 3 := ⟨⟨tm_840, tm_561, tm_562, tm_37, tm_563⟩, by decide +kernel⟩
theorem vl_X5_77 : VL RX5 77 RX1 yX1_at cX1_at 2 (some .int) 1 := ⟨⟨tm_835, tm_775, tm_776, tm_34, tm_777⟩, by decide +kernel⟩
theorem vl_X5_91 : VL RX5 91 RX6 yX6_get cX6_get 4 (some .int) 2 := ⟨⟨tm_834, tm_358, tm_359, tm_37, tm_360⟩, by decide +kernel⟩
theorem vl_X5_87 : VL RX5 87 RX5 yX5_isNamed cX5_isNamed 6 (some .boolean) 4 := ⟨⟨tm_830, tm_832, tms_25, tm_36, tm_833⟩, by decide +kernel⟩
theorem dX5_copyFrom_0 : decode cX5_copyFrom 0 = .ok (.aload_n 0, 1) := by decide +kernel
theorem dX5_copyFrom_1 : decode cX5_copyFrom 1 = .ok (.aload_n 1, 1) := by decide +kernel
theorem dX5_copyFrom_2 : decode cX5_copyFrom 2 = .ok (.getfield 9, 3) := by decide +kernel
theorem dX5_copyFrom_5 : decode cX5_copyFrom 5 = .ok (.putfield 9, 3) := by decide +kernel
theorem dX5_copyFrom_8 : decode cX5_copyFrom 8 = .ok (.aload_n 0, 1) := by decide +kernel
theorem dX5_copyFrom_9 : decode cX5_copyFrom 9 = .ok (.aload_n 1, 1) := by decide +kernel
theorem dX5_copyFrom_10 : decode cX5_copyFrom 10 = .ok (.getfield 15, 3) := by decide +kernel
theorem dX5_copyFrom_13 : decode cX5_copyFrom 13 = .ok (.putfield 15, 3) := by decide +kernel
theorem dX5_copyFrom_16 : decode cX5_copyFrom 16 = .ok (.aload_n 0, 1) := by decide +kernel
theorem dX5_copyFrom_17 : decode cX5_copyFrom 17 = .ok (.aload_n 1, 1) := by decide +kernel
theorem dX5_copyFrom_18 : decode cX5_copyFrom 18 = .ok (.getfield 18, 3) := by decide +kernel
theorem dX5_copyFrom_21 : decode cX5_copyFrom 21 = .ok (.putfield 18, 3) := by decide +kernel
theorem dX5_copyFrom_24 : decode cX5_copyFrom 24 = .ok (.aload_n 0, 1) := by decide +kernel
theorem dX5_copyFrom_25 : decode cX5_copyFrom 25 = .ok (.aload_n 1, 1) := by decide +kernel
theorem dX5_copyFrom_26 : decode cX5_copyFrom 26 = .ok (.getfield 21, 3) := by decide +kernel
theorem dX5_copyFrom_29 : decode cX5_copyFrom 29 = .ok (.putfield 21, 3) := by decide +kernel
theorem dX5_copyFrom_32 : decode cX5_copyFrom 32 = .ok (.aload_n 0, 1) := by decide +kernel
theorem dX5_copyFrom_33 : decode cX5_copyFrom 33 = .ok (.aload_n 1, 1) := by decide +kernel
theorem dX5_copyFrom_34 : decode cX5_copyFrom 34 = .ok (.getfield 24, 3) := by decide +kernel
theorem dX5_copyFrom_37 : decode cX5_copyFrom 37 = .ok (.putfield 24, 3) := by decide +kernel
theorem dX5_copyFrom_40 : decode cX5_copyFrom 40 = .ok (.aload_n 0, 1) := by decide +kernel
theorem dX5_copyFrom_41 : decode cX5_copyFrom 41 = .ok (.aload_n 1, 1) := by decide +kernel
theorem dX5_copyFrom_42 : decode cX5_copyFrom 42 = .ok (.getfield 27, 3) := by decide +kernel
theorem dX5_copyFrom_45 : decode cX5_copyFrom 45 = .ok (.putfield 27, 3) := by decide +kernel
theorem dX5_copyFrom_48 : decode cX5_copyFrom 48 = .ok (.aload_n 0, 1) := by decide +kernel
theorem dX5_copyFrom_49 : decode cX5_copyFrom 49 = .ok (.aload_n 1, 1) := by decide +kernel
theorem dX5_copyFrom_50 : decode cX5_copyFrom 50 = .ok (.getfield 30, 3) := by decide +kernel
theorem dX5_copyFrom_53 : decode cX5_copyFrom 53 = .ok (.putfield 30, 3) := by decide +kernel
theorem dX5_copyFrom_56 : decode cX5_copyFrom 56 = .ok (.aload_n 0, 1) := by decide +kernel
theorem dX5_copyFrom_57 : decode cX5_copyFrom 57 = .ok (.getfield 38, 3) := by decide +kernel
theorem dX5_copyFrom_60 : decode cX5_copyFrom 60 = .ok (.aload_n 1, 1) := by decide +kernel
theorem dX5_copyFrom_61 : decode cX5_copyFrom 61 = .ok (.getfield 38, 3) := by decide +kernel
theorem dX5_copyFrom_64 : decode cX5_copyFrom 64 = .ok (.invokevirtual 63, 3) := by decide +kernel
theorem dX5_copyFrom_67 : decode cX5_copyFrom 67 = .ok (.return_, 1) := by decide +kernel
theorem dX5_addProcess_0 : decode cX5_addProcess 0 = .ok (.iload_n 2, 1) := by decide +kernel
theorem dX5_addProcess_1 : decode cX5_addProcess 1 = .ok (.istore 4, 2) := by decide +kernel
theorem dX5_addProcess_3 : decode cX5_addProcess 3 = .ok (.iload 4, 2) := by decide +kernel
theorem dX5_addProcess_5 : decode cX5_addProcess 5 = .ok (.iload_n 3, 1) := by decide +kernel
theorem dX5_addProcess_6 : decode cX5_addProcess 6 = .ok (.if_icmp .ge 30, 3) := by decide +kernel
theorem dX5_addProcess_9 : decode cX5_addProcess 9 = .ok (.aload_n 0, 1) := by decide +kernel
theorem dX5_addProcess_10 : decode cX5_addProcess 10 = .ok (.getfield 38, 3) := by decide +kernel
theorem dX5_addProcess_13 : decode cX5_addProcess 13 = .ok (.aload_n 0, 1) := by decide +kernel
theorem dX5_addProcess_14 : decode cX5_addProcess 14 = .ok (.getfield 15, 3) := by decide +kernel
theorem dX5_addProcess_17 : decode cX5_addProcess 17 = .ok (.iload 4, 2) := by decide +kernel
theorem dX5_addProcess_19 : decode cX5_addProcess 19 = .ok (.iload_n 2, 1) := by decide +kernel
theorem dX5_addProcess_20 : decode cX5_addProcess 20 = .ok (.isub, 1) := by decide +kernel
theorem dX5_addProcess_21 : decode cX5_addProcess 21 = .ok (.aload_n 1, 1) := by decide +kernel
theorem dX5_addProcess_22 : decode cX5_addProcess 22 = .ok (.iload 4, 2) := by decide +kernel
theorem dX5_addProcess_24 : decode cX5_addProcess 24 = .ok (.invokevirtual 77, 3) := by decide +kernel
theorem dX5_addProcess_27 : decode cX5_addProcess 27 = .ok (.invokevirtual 83, 3) := by decide +kernel
theorem dX5_addProcess_30 : decode cX5_addProcess 30 = .ok (.iinc 4 1, 3) := by decide +kernel
theorem dX5_addProcess_33 : decode cX5_addProcess 33 = .ok (.goto (-30), 3) := by decide +kernel
theorem dX5_addProcess_36 : decode cX5_addProcess 36 = .ok (.aload_n 0, 1) := by decide +kernel
theorem dX5_addProcess_37 : decode cX5_addProcess 37 = .ok (.getfield 38, 3) := by decide +kernel
theorem dX5_addProcess_40 : decode cX5_addProcess 40 = .ok (.aload_n 0, 1) := by decide +kernel
theorem dX5_addProcess_41 : decode cX5_addProcess 41 = .ok (.getfield 15, 3) := by decide +kernel
theorem dX5_addProcess_44 : decode cX5_addProcess 44 = .ok (.bipush 6, 2) := by decide +kernel
theorem dX5_addProcess_46 : decode cX5_addProcess 46 = .ok (.iload_n 3, 1) := by decide +kernel
theorem dX5_addProcess_47 : decode cX5_addProcess 47 = .ok (.iload_n 2, 1) := by decide +kernel
theorem dX5_addProcess_48 : decode cX5_addProcess 48 = .ok (.isub, 1) := by decide +kernel
theorem dX5_addProcess_49 : decode cX5_addProcess 49 = .ok (.invokevirtual 83, 3) := by decide +kernel
theorem dX5_addProcess_52 : decode cX5_addProcess 52 = .ok (.aload_n 0, 1) := by decide +kernel
theorem dX5_addProcess_53 : decode cX5_addProcess 53 = .ok (.dup, 1) := by decide +kernel
theorem dX5_addProcess_54 : decode cX5_addProcess 54 = .ok (.getfield 15, 3) := by decide +kernel
theorem dX5_addProcess_57 : decode cX5_addProcess 57 = .ok (.iconst 1, 1) := by decide +kernel
theorem dX5_addProcess_58 : decode cX5_addProcess 58 = .ok (.iadd, 1) := by decide +kernel
theorem dX5_addProcess_59 : decode cX5_addProcess 59 = .ok (.putfield 15, 3) := by decide +kernel
theorem dX5_addProcess_62 : decode cX5_addProcess 62 = .ok (.return_, 1) := by decide +kernel
theorem dX5_isNamed_0 : decode cX5_isNamed 0 = .ok (.aload_n 0, 1) := by decide +kernel
theorem dX5_isNamed_1 : decode cX5_isNamed 1 = .ok (.getfield 38, 3) := by decide +kernel
theorem dX5_isNamed_4 : decode cX5_isNamed 4 = .ok (.iload_n 1, 1) := by decide +kernel
theorem dX5_isNamed_5 : decode cX5_isNamed 5 = .ok (.bipush 6, 2) := by decide +kernel
theorem dX5_isNamed_7 : decode cX5_isNamed 7 = .ok (.invokevirtual 91, 3) := by decide +kernel
theorem dX5_isNamed_10 : decode cX5_isNamed 10 = .ok (.iload 4, 2) := by decide +kernel
theorem dX5_isNamed_12 : decode cX5_isNamed 12 = .ok (.iload_n 3, 1) := by decide +kernel
theorem dX5_isNamed_13 : decode cX5_isNamed 13 = .ok (.isub, 1) := by decide +kernel
theorem dX5_isNamed_14 : decode cX5_isNamed 14 = .ok (.if_icmp .eq 5, 3) := by decide +kernel
theorem dX5_isNamed_17 : decode cX5_isNamed 17 = .ok (.iconst 0, 1) := by decide +kernel
theorem dX5_isNamed_18 : decode cX5_isNamed 18 = .ok (.ireturn, 1) := by decide +kernel
theorem dX5_isNamed_19 : decode cX5_isNamed 19 = .ok (.iload_n 3, 1) := by decide +kernel
theorem dX5_isNamed_20 : decode cX5_isNamed 20 = .ok (.istore 5, 2) := by decide +kernel
theorem dX5_isNamed_22 : decode cX5_isNamed 22 = .ok (.iload 5, 2) := by decide +kernel
theorem dX5_isNamed_24 : decode cX5_isNamed 24 = .ok (.iload 4, 2) := by decide +kernel
theorem dX5_isNamed_26 : decode cX5_isNamed 26 = .ok (.if_icmp .ge 32, 3) := by decide +kernel
theorem dX5_isNamed_29 : decode cX5_isNamed 29 = .ok (.aload_n 0, 1) := by decide +kernel
theorem dX5_isNamed_30 : decode cX5_isNamed 30 = .ok (.getfield 38, 3) := by decide +kernel
theorem dX5_isNamed_33 : decode cX5_isNamed 33 = .ok (.iload_n 1, 1) := by decide +kernel
theorem dX5_isNamed_34 : decode cX5_isNamed 34 = .ok (.iload 5, 2) := by decide +kernel
theorem dX5_isNamed_36 : decode cX5_isNamed 36 = .ok (.iload_n 3, 1) := by decide +kernel
theorem dX5_isNamed_37 : decode cX5_isNamed 37 = .ok (.isub, 1) := by decide +kernel
theorem dX5_isNamed_38 : decode cX5_isNamed 38 = .ok (.invokevirtual 91, 3) := by decide +kernel
theorem dX5_isNamed_41 : decode cX5_isNamed 41 = .ok (.aload_n 2, 1) := by decide +kernel
theorem dX5_isNamed_42 : decode cX5_isNamed 42 = .ok (.iload 5, 2) := by decide +kernel
theorem dX5_isNamed_44 : decode cX5_isNamed 44 = .ok (.invokevirtual 77, 3) := by decide +kernel
theorem dX5_isNamed_47 : decode cX5_isNamed 47 = .ok (.if_icmp .eq 5, 3) := by decide +kernel
theorem dX5_isNamed_50 : decode cX5_isNamed 50 = .ok (.iconst 0, 1) := by decide +kernel
theorem dX5_isNamed_51 : decode cX5_isNamed 51 = .ok (.ireturn, 1) := by decide +kernel
theorem dX5_isNamed_52 : decode cX5_isNamed 52 = .ok (.iinc 5 1, 3) := by decide +kernel
theorem dX5_isNamed_55 : decode cX5_isNamed 55 = .ok (.goto (-33), 3) := by decide +kernel
theorem dX5_isNamed_58 : decode cX5_isNamed 58 = .ok (.iconst 1, 1) := by decide +kernel
theorem dX5_isNamed_59 : decode cX5_isNamed 59 = .ok (.ireturn, 1) := by decide +kernel
theorem dX5_processNamed_0 : decode cX5_processNamed 0 = .ok (.iconst 0, 1) := by decide +kernel
theorem dX5_processNamed_1 : decode cX5_processNamed 1 = .ok (.istore 4, 2) := by decide +kernel
theorem dX5_processNamed_3 : decode cX5_processNamed 3 = .ok (.iload 4, 2) := by decide +kernel
theorem dX5_processNamed_5 : decode cX5_processNamed 5 = .ok (.aload_n 0, 1) := by decide +kernel
theorem dX5_processNamed_6 : decode cX5_processNamed 6 = .ok (.getfield 15, 3) := by decide +kernel
theorem dX5_processNamed_9 : decode cX5_processNamed 9 = .ok (.if_icmp .ge 24, 3) := by decide +kernel
theorem dX5_processNamed_12 : decode cX5_processNamed 12 = .ok (.aload_n 0, 1) := by decide +kernel
theorem dX5_processNamed_13 : decode cX5_processNamed 13 = .ok (.iload 4, 2) := by decide +kernel
theorem dX5_processNamed_15 : decode cX5_processNamed 15 = .ok (.aload_n 1, 1) := by decide +kernel
theorem dX5_processNamed_16 : decode cX5_processNamed 16 = .ok (.iload_n 2, 1) := by decide +kernel
theorem dX5_processNamed_17 : decode cX5_processNamed 17 = .ok (.iload_n 3, 1) := by decide +kernel
theorem dX5_processNamed_18 : decode cX5_processNamed 18 = .ok (.invokevirtual 87, 3) := by decide +kernel
theorem dX5_processNamed_21 : decode cX5_processNamed 21 = .ok (.ifCond .eq 6, 3) := by decide +kernel
theorem dX5_processNamed_24 : decode cX5_processNamed 24 = .ok (.iload 4, 2) := by decide +kernel
theorem dX5_processNamed_26 : decode cX5_processNamed 26 = .ok (.ireturn, 1) := by decide +kernel
theorem dX5_processNamed_27 : decode cX5_processNamed 27 = .ok (.iinc 4 1, 3) := by decide +kernel
theorem dX5_processNamed_30 : decode cX5_processNamed 30 = .ok (.goto (-27), 3) := by decide +kernel
theorem dX5_processNamed_33 : decode cX5_processNamed 33 = .ok (.iconst (-1), 1) := by decide +kernel
theorem dX5_processNamed_34 : decode cX5_processNamed 34 = .ok (.ireturn, 1) := by decide +kernel
theorem dX5_isHearing_0 : decode cX5_isHearing 0 = .ok (.aload_n 0, 1) := by decide +kernel
theorem dX5_isHearing_1 : decode cX5_isHearing 1 = .ok (.getfield 18, 3) := by decide +kernel
theorem dX5_isHearing_4 : decode cX5_isHearing 4 = .ok (.ifCond .le 16, 3) := by decide +kernel
theorem dX5_isHearing_7 : decode cX5_isHearing 7 = .ok (.iload_n 1, 1) := by decide +kernel
theorem dX5_isHearing_8 : decode cX5_isHearing 8 = .ok (.aload_n 0, 1) := by decide +kernel
theorem dX5_isHearing_9 : decode cX5_isHearing 9 = .ok (.getfield 18, 3) := by decide +kernel
theorem dX5_isHearing_12 : decode cX5_isHearing 12 = .ok (.irem, 1) := by decide +kernel
theorem dX5_isHearing_13 : decode cX5_isHearing 13 = .ok (.ifCond .ne 7, 3) := by decide +kernel
theorem dX5_isHearing_16 : decode cX5_isHearing 16 = .ok (.iconst 1, 1) := by decide +kernel
theorem dX5_isHearing_17 : decode cX5_isHearing 17 = .ok (.goto 4, 3) := by decide +kernel
theorem dX5_isHearing_20 : decode cX5_isHearing 20 = .ok (.iconst 0, 1) := by decide +kernel
theorem dX5_isHearing_21 : decode cX5_isHearing 21 = .ok (.ireturn, 1) := by decide +kernel
theorem dX5_isFading_0 : decode cX5_isFading 0 = .ok (.aload_n 0, 1) := by decide +kernel
theorem dX5_isFading_1 : decode cX5_isFading 1 = .ok (.getfield 24, 3) := by decide +kernel
theorem dX5_isFading_4 : decode cX5_isFading 4 = .ok (.ifCond .le 16, 3) := by decide +kernel
theorem dX5_isFading_7 : decode cX5_isFading 7 = .ok (.iload_n 1, 1) := by decide +kernel
theorem dX5_isFading_8 : decode cX5_isFading 8 = .ok (.aload_n 0, 1) := by decide +kernel
theorem dX5_isFading_9 : decode cX5_isFading 9 = .ok (.getfield 24, 3) := by decide +kernel
theorem dX5_isFading_12 : decode cX5_isFading 12 = .ok (.irem, 1) := by decide +kernel
theorem dX5_isFading_13 : decode cX5_isFading 13 = .ok (.ifCond .ne 7, 3) := by decide +kernel
theorem dX5_isFading_16 : decode cX5_isFading 16 = .ok (.iconst 1, 1) := by decide +kernel
theorem dX5_isFading_17 : decode cX5_isFading 17 = .ok (.goto 4, 3) := by decide +kernel
theorem dX5_isFading_20 : decode cX5_isFading 20 = .ok (.iconst 0, 1) := by decide +kernel
theorem dX5_isFading_21 : decode cX5_isFading 21 = .ok (.ireturn, 1) := by decide +kernel
def f_X5_copyFrom (n : Nat) (th_0 : OS) (p1_0 : OS) : Option (OS) :=
  Let (sI th_0 0 (p1_0.1 0)) (fun th_1 : OS =>
  Let (sI th_1 1 (p1_0.1 1)) (fun th_2 : OS =>
  Let (sI th_2 2 (p1_0.1 2)) (fun th_3 : OS =>
  Let (sI th_3 3 (p1_0.1 3)) (fun th_4 : OS =>
  Let (sI th_4 4 (p1_0.1 4)) (fun th_5 : OS =>
  Let (sI th_5 5 (p1_0.1 5)) (fun th_6 : OS =>
  Let (sI th_6 6 (p1_0.1 6)) (fun th_7 : OS =>
  bnd (f_X6_copyFrom n (7 : Int32) 56 (th_7.2.1 7) (7 : Int32) 56 (p1_0.2.1 7)) (fun (y_8 : Nat → Int32) =>
  Let (sA th_7 7 y_8) (fun th_9 : OS =>
  some th_9)))))))))
set_option maxHeartbeats 4000000 in
set_option maxRecDepth 100000 in
theorem c_X5_copyFrom (n : Nat) (l : Launch) (k : KT) (a_th : Nat → Nat) (a_p1 : Nat → Nat) (th_0 : OS) (p1_0 : OS) (res : (OS)) (hf : f_X5_copyFrom n th_0 p1_0 = some res) : CG l k yX5_copyFrom cX5_copyFrom 2 none 2 0 0 47 [.ref (a_th 0), .ref (a_p1 0)] (wRules k a_th th_0 ++ wRules k a_p1 p1_0) (Qv k (fun u : OS => wRules k a_th u ++ wRules k a_p1 p1_0) (fun u : OS => res = u)) := by
  refine CG.ofV (by decide) (Nat.le_of_ble_eq_true rfl) (fun p e s m args below meth c A Q E hnm hW hA hret ls hl => ?_)
  have hl : lv_has ls 2 [(0, .ref (a_th 0)), (1, .ref (a_p1 0))] := hl
  unfold f_X5_copyFrom at hf
  refine k_aload_n E hl 0 dX5_copyFrom_0 rfl ?_
  refine k_aload_n E hl 1 dX5_copyFrom_1 rfl ?_
  refine gf_X5_9 E hW 3 rfl rfl dX5_copyFrom_2 ?_
  obtain ⟨th_1, eth_1, hf⟩ := oL hf
  refine pf_X5_9 (ws2 := wRules k a_th th_1 ++ wRules k a_p1 p1_0) E hW 0 rfl rfl rfl (Nat.le_of_ble_eq_true rfl) dX5_copyFrom_5 (by rw [eth_1]; rfl) (fun H locs hW => ?_)
  refine k_aload_n E hl 0 dX5_copyFrom_8 rfl ?_
  refine k_aload_n E hl 1 dX5_copyFrom_9 rfl ?_
  refine gf_X5_15 E hW 3 rfl rfl dX5_copyFrom_10 ?_
  obtain ⟨th_2, eth_2, hf⟩ := oL hf
  refine pf_X5_15 (ws2 := wRules k a_th th_2 ++ wRules k a_p1 p1_0) E hW 0 rfl rfl rfl (Nat.le_of_ble_eq_true rfl) dX5_copyFrom_13 (by rw [eth_2]; rfl) (fun H locs hW => ?_)
  refine k_aload_n E hl 0 dX5_copyFrom_16 rfl ?_
  refine k_aload_n E hl 1 dX5_copyFrom_17 rfl ?_
  refine gf_X5_18 E hW 3 rfl rfl dX5_copyFrom_18 ?_
  obtain ⟨th_3, eth_3, hf⟩ := oL hf
  refine pf_X5_18 (ws2 := wRules k a_th th_3 ++ wRules k a_p1 p1_0) E hW 0 rfl rfl rfl (Nat.le_of_ble_eq_true rfl) dX5_copyFrom_21 (by rw [eth_3]; rfl) (fun H locs hW => ?_)
  refine k_aload_n E hl 0 dX5_copyFrom_24 rfl ?_
  refine k_aload_n E hl 1 dX5_copyFrom_25 rfl ?_
  refine gf_X5_21 E hW 3 rfl rfl dX5_copyFrom_26 ?_
  obtain ⟨th_4, eth_4, hf⟩ := oL hf
  refine pf_X5_21 (ws2 := wRules k a_th th_4 ++ wRules k a_p1 p1_0) E hW 0 rfl rfl rfl (Nat.le_of_ble_eq_true rfl) dX5_copyFrom_29 (by rw [eth_4]; rfl) (fun H locs hW => ?_)
  refine k_aload_n E hl 0 dX5_copyFrom_32 rfl ?_
  refine k_aload_n E hl 1 dX5_copyFrom_33 rfl ?_
  refine gf_X5_24 E hW 3 rfl rfl dX5_copyFrom_34 ?_
  obtain ⟨th_5, eth_5, hf⟩ := oL hf
  refine pf_X5_24 (ws2 := wRules k a_th th_5 ++ wRules k a_p1 p1_0) E hW 0 rfl rfl rfl (Nat.le_of_ble_eq_true rfl) dX5_copyFrom_37 (by rw [eth_5]; rfl) (fun H locs hW => ?_)
  refine k_aload_n E hl 0 dX5_copyFrom_40 rfl ?_
  refine k_aload_n E hl 1 dX5_copyFrom_41 rfl ?_
  refine gf_X5_27 E hW 3 rfl rfl dX5_copyFrom_42 ?_
  obtain ⟨th_6, eth_6, hf⟩ := oL hf
  refine pf_X5_27 (ws2 := wRules k a_th th_6 ++ wRules k a_p1 p1_0) E hW 0 rfl rfl rfl (Nat.le_of_ble_eq_true rfl) dX5_copyFrom_45 (by rw [eth_6]; rfl) (fun H locs hW => ?_)
  refine k_aload_n E hl 0 dX5_copyFrom_48 rfl ?_
  refine k_aload_n E hl 1 dX5_copyFrom_49 rfl ?_
  refine gf_X5_30 E hW 3 rfl rfl dX5_copyFrom_50 ?_
  obtain ⟨th_7, eth_7, hf⟩ := oL hf
  refine pf_X5_30 (ws2 := wRules k a_th th_7 ++ wRules k a_p1 p1_0) E hW 0 rfl rfl rfl (Nat.le_of_ble_eq_true rfl) dX5_copyFrom_53 (by rw [eth_7]; rfl) (fun H locs hW => ?_)
  refine k_aload_n E hl 0 dX5_copyFrom_56 rfl ?_
  refine gf_X5_38 E hW 0 rfl rfl dX5_copyFrom_57 ?_
  refine k_aload_n E hl 1 dX5_copyFrom_60 rfl ?_
  refine gf_X5_38 E hW 3 rfl rfl dX5_copyFrom_61 ?_
  obtain ⟨y_8, hg, hf⟩ := ob hf
  obtain ⟨th_9, eth_9, hf⟩ := oL hf
  refine k_callVv (As := [.ref (a_p1 1)]) (rest := []) (ws2 := fun u => wRules k a_th (sA th_7 7 (u)) ++ wRules k a_p1 p1_0) (c_X6_copyFrom n l k (fun j => a_th (1 + j)) (fun j => a_p1 (1 + j)) (7 : Int32) 56 (th_7.2.1 7) (7 : Int32) 56 (p1_0.2.1 7) y_8 hg) E vl_X5_63 dX5_copyFrom_64 rfl [1, 2, 4, 5] 7 1 hW hA hl rfl rfl rfl rfl ⟨by decide, by decide⟩ ⟨by decide, by decide⟩ (Nat.le_of_ble_eq_true rfl) rfl (fun _ => rfl) (fun _ => rfl) (fun u H locs hp hW => ?_)
  cases hp
  have hW : WD k A s.heap (wRules k a_th th_9 ++ wRules k a_p1 p1_0) H locs := by rw [eth_9]; exact hW
  exact hret th_9 _ _ _ _ _ _ hW (Option.some.inj hf).symm (by decide) (by decide) dX5_copyFrom_67
def j_X5_addProcess_36 (n : Nat) (z_p1 : Nat) (p1_0 : OS) (w2_j3 : Int32) (w3_j3 : Int32) (th_j36 : OS) : Option (OS) :=
  bnd (f_X6_set n (7 : Int32) 56 (th_j36.2.1 7) (th_j36.1 1) (6 : Int32) (w3_j3 - w2_j3)) (fun (y_1 : Nat → Int32) =>
  Let (sA th_j36 7 y_1) (fun th_2 : OS =>
  Let (sI th_2 1 ((th_2.1 1) + (1 : Int32))) (fun th_3 : OS =>
  some th_3)))
def s_X5_addProcess_3 (n : Nat) (z_p1 : Nat) (p1_0 : OS) (w2_j3 : Int32) (w3_j3 : Int32) (rc_3 : (OS) → (Int32) → Option (OS)) (th_j3 : OS) (w4_j3 : Int32) : Option (OS) :=
  if w3_j3 ≤ w4_j3 then (
  j_X5_addProcess_36 n z_p1 p1_0 w2_j3 w3_j3 th_j3) else (
  bnd (f_X1_at n z_p1 p1_0 w4_j3) (fun (r_4 : Int32) =>
  bnd (f_X6_set n (7 : Int32) 56 (th_j3.2.1 7) (th_j3.1 1) (w4_j3 - w2_j3) r_4) (fun (y_5 : Nat → Int32) =>
  Let (sA th_j3 7 y_5) (fun th_6 : OS =>
  Let (w4_j3 + (1 : Int32)) (fun v4_7 : Int32 =>
  rc_3 th_6 v4_7)))))
def l_X5_addProcess_3 (n : Nat) (z_p1 : Nat) (p1_0 : OS) (w2_j3 : Int32) (w3_j3 : Int32) : Nat → (OS) → (Int32) → Option (OS)
  | 0 => fun _ _ => none
  | N + 1 => s_X5_addProcess_3 n z_p1 p1_0 w2_j3 w3_j3 (l_X5_addProcess_3 n z_p1 p1_0 w2_j3 w3_j3 N)
def f_X5_addProcess (n : Nat) (th_0 : OS) (z_p1 : Nat) (p1_0 : OS) (v2_0 : Int32) (v3_0 : Int32) : Option (OS) :=
  l_X5_addProcess_3 n z_p1 p1_0 v2_0 v3_0 n th_0 v2_0
set_option maxHeartbeats 4000000 in
set_option maxRecDepth 100000 in
theorem c_X5_addProcess (n : Nat) (l : Launch) (k : KT) (a_th : Nat → Nat) (a_p1 : Nat → Nat) (th_0 : OS) (z_p1 : Nat) (p1_0 : OS) (v2_0 : Int32) (v3_0 : Int32) (res : (OS)) (hf : f_X5_addProcess n th_0 z_p1 p1_0 v2_0 v3_0 = some res) : CG l k yX5_addProcess cX5_addProcess 5 none 1 0 0 24 [.ref (a_th 0), .ref (a_p1 0), .int v2_0, .int v3_0] (wRules k a_th th_0 ++ wBytes k a_p1 z_p1 p1_0) (Qv k (fun u : OS => wRules k a_th u ++ wBytes k a_p1 z_p1 p1_0) (fun u : OS => res = u)) := by
  refine CG.ofV (by decide) (Nat.le_of_ble_eq_true rfl) (fun p e s m args below meth c A Q E hnm hW hA hret ls hl => ?_)
  have hl : lv_has ls 5 [(0, .ref (a_th 0)), (1, .ref (a_p1 0)), (2, .int v2_0), (3, .int v3_0)] := hl
  unfold f_X5_addProcess at hf
  refine k_iload_n E hl 2 dX5_addProcess_0 rfl ?_
  refine k_istore (lv' := [(4, .int v2_0), (0, .ref (a_th 0)), (1, .ref (a_p1 0)), (2, .int v2_0), (3, .int v3_0)]) E rfl hl dX5_addProcess_1 (by decide) rfl (fun ls hl => ?_)
  have L_3 : ∀ (N_3 : Nat) (th_j3 : OS) (w4_j3 : Int32) (H : Heap) (locs : List Loc) (ls : Array Slot) (hW : WD k A s.heap (wRules k a_th th_j3 ++ wBytes k a_p1 z_p1 p1_0) H locs) (hl : lv_has ls 5 [(0, .ref (a_th 0)), (1, .ref (a_p1 0)), (2, .int v2_0), (3, .int v3_0), (4, .int w4_j3)]) (hf : l_X5_addProcess_3 n z_p1 p1_0 v2_0 v3_0 N_3 th_j3 w4_j3 = some res), W p l e { frames := 1, cells := 0, slots := 0, locals := 24 } s m args below meth c H locs 0 0 Q (F0 m 3 ls []) := by
    intro N_3
    induction N_3 with
    | zero => intro th_j3 w4_j3 H locs ls hW hl hf; exact o0 hf
    | succ N_3 ih_3 =>
      intro th_j3 w4_j3 H locs ls hW hl hf
      have hf : s_X5_addProcess_3 n z_p1 p1_0 v2_0 v3_0 (l_X5_addProcess_3 n z_p1 p1_0 v2_0 v3_0 N_3) th_j3 w4_j3 = some res := hf
      unfold s_X5_addProcess_3 at hf
      refine k_iload E hl 4 dX5_addProcess_3 rfl ?_
      refine k_iload_n E hl 3 dX5_addProcess_5 rfl ?_
      have J_36 : ∀ (th_j36 : OS) (H : Heap) (locs : List Loc) (ls : Array Slot) (hW : WD k A s.heap (wRules k a_th th_j36 ++ wBytes k a_p1 z_p1 p1_0) H locs) (hl : lv_has ls 5 [(0, .ref (a_th 0)), (2, .int v2_0), (3, .int v3_0)]) (hf : j_X5_addProcess_36 n z_p1 p1_0 v2_0 v3_0 th_j36 = some res), W p l e { frames := 1, cells := 0, slots := 0, locals := 24 } s m args below meth c H locs 0 0 Q (F0 m 36 ls []) := by
        intro th_j36 H locs ls hW hl hf
        unfold j_X5_addProcess_36 at hf
        refine k_aload_n E hl 0 dX5_addProcess_36 rfl ?_
        refine gf_X5_38 E hW 0 rfl rfl dX5_addProcess_37 ?_
        refine k_aload_n E hl 0 dX5_addProcess_40 rfl ?_
        refine gf_X5_15 E hW 0 rfl rfl dX5_addProcess_41 ?_
        refine lv_bipush (v := (6 : Int32)) E.hx E.hb dX5_addProcess_44 bp_6 ?_
        refine k_iload_n E hl 2 dX5_addProcess_46 rfl ?_
        refine k_iload_n E hl 1 dX5_addProcess_47 rfl ?_
        refine lv_isub E.hx E.hb dX5_addProcess_48 ?_
        obtain ⟨y_1, hg, hf⟩ := ob hf
        obtain ⟨th_2, eth_2, hf⟩ := oL hf
        refine k_callVv (As := [.int (th_j36.1 1), .int (6 : Int32), .int (v3_0 - v2_0)]) (rest := []) (ws2 := fun u => wRules k a_th (sA th_j36 7 (u)) ++ wBytes k a_p1 z_p1 p1_0) (c_X6_set n l k (fun j => a_th (1 + j)) (7 : Int32) 56 (th_j36.2.1 7) (th_j36.1 1) (6 : Int32) (v3_0 - v2_0) y_1 hg) E vl_X5_83 dX5_addProcess_49 rfl [1, 2] 7 1 hW hA hl rfl rfl rfl rfl ⟨by decide, by decide⟩ ⟨by decide, by decide⟩ (Nat.le_of_ble_eq_true rfl) rfl (fun _ => rfl) (fun _ => rfl) (fun u H locs hp hW => ?_)
        cases hp
        have hW : WD k A s.heap (wRules k a_th th_2 ++ wBytes k a_p1 z_p1 p1_0) H locs := by rw [eth_2]; exact hW
        refine k_aload_n E hl 0 dX5_addProcess_52 rfl ?_
        refine lv_dup E.hx E.hb dX5_addProcess_53 rfl ?_
        refine gf_X5_15 E hW 0 rfl rfl dX5_addProcess_54 ?_
        refine lv_iconst (v := (1 : Int32)) E.hx E.hb dX5_addProcess_57 ic_1 ?_
        refine lv_iadd E.hx E.hb dX5_addProcess_58 ?_
        obtain ⟨th_3, eth_3, hf⟩ := oL hf
        refine pf_X5_15 (ws2 := wRules k a_th th_3 ++ wBytes k a_p1 z_p1 p1_0) E hW 0 rfl rfl rfl (Nat.le_of_ble_eq_true rfl) dX5_addProcess_59 (by rw [eth_3]; rfl) (fun H locs hW => ?_)
        exact hret th_3 _ _ _ _ _ _ hW (Option.some.inj hf).symm (by decide) (by decide) dX5_addProcess_62
      refine lv_icmp_ge (tgt := 36) E.hx E.hb dX5_addProcess_6 (by decide) (fun hc => ?_) (fun hc => ?_)
      · have hf := oT hc hf
        exact J_36 th_j3 _ _ _ hW (lv_sub hl [0, 2, 3] rfl) hf
      · have hf := oF hc hf
        refine k_aload_n E hl 0 dX5_addProcess_9 rfl ?_
        refine gf_X5_38 E hW 0 rfl rfl dX5_addProcess_10 ?_
        refine k_aload_n E hl 0 dX5_addProcess_13 rfl ?_
        refine gf_X5_15 E hW 0 rfl rfl dX5_addProcess_14 ?_
        refine k_iload E hl 4 dX5_addProcess_17 rfl ?_
        refine k_iload_n E hl 2 dX5_addProcess_19 rfl ?_
        refine lv_isub E.hx E.hb dX5_addProcess_20 ?_
        refine k_aload_n E hl 1 dX5_addProcess_21 rfl ?_
        refine k_iload E hl 4 dX5_addProcess_22 rfl ?_
        obtain ⟨r_4, hg, hf⟩ := ob hf
        refine k_callVi (As := [.int w4_j3]) (rest := [.int (w4_j3 - v2_0), .int (th_j3.1 1), .ref (a_th 1)]) (ws2 := fun u => wRules k a_th th_j3 ++ wBytes k a_p1 z_p1 p1_0) (c_X1_at n l k a_p1 z_p1 p1_0 w4_j3 r_4 hg) E vl_X5_77 dX5_addProcess_24 rfl [3, 4] 2 3 hW hA hl rfl rfl rfl rfl ⟨by decide, by decide⟩ ⟨by decide, by decide⟩ (Nat.le_of_ble_eq_true rfl) rfl (fun _ => rfl) (fun _ => rfl) (fun r u H locs hp hW => ?_)
        cases hp
        have hW : WD k A s.heap (wRules k a_th th_j3 ++ wBytes k a_p1 z_p1 p1_0) H locs := hW
        obtain ⟨y_5, hg, hf⟩ := ob hf
        obtain ⟨th_6, eth_6, hf⟩ := oL hf
        refine k_callVv (As := [.int (th_j3.1 1), .int (w4_j3 - v2_0), .int r_4]) (rest := []) (ws2 := fun u => wRules k a_th (sA th_j3 7 (u)) ++ wBytes k a_p1 z_p1 p1_0) (c_X6_set n l k (fun j => a_th (1 + j)) (7 : Int32) 56 (th_j3.2.1 7) (th_j3.1 1) (w4_j3 - v2_0) r_4 y_5 hg) E vl_X5_83 dX5_addProcess_27 rfl [1, 2] 7 1 hW hA hl rfl rfl rfl rfl ⟨by decide, by decide⟩ ⟨by decide, by decide⟩ (Nat.le_of_ble_eq_true rfl) rfl (fun _ => rfl) (fun _ => rfl) (fun u H locs hp hW => ?_)
        cases hp
        have hW : WD k A s.heap (wRules k a_th th_6 ++ wBytes k a_p1 z_p1 p1_0) H locs := by rw [eth_6]; exact hW
        obtain ⟨v4_7, ev4_7, hf⟩ := oL hf
        refine k_iinc (lv' := [(4, .int v4_7), (0, .ref (a_th 0)), (1, .ref (a_p1 0)), (2, .int v2_0), (3, .int v3_0)]) E hl 4 dX5_addProcess_30 rfl (ev4_7.trans (congrArg (fun z => w4_j3 + z) ic_1.symm)) (by decide) rfl (fun ls hl => ?_)
        refine lv_goto (tgt := 3) E.hx E.hb dX5_addProcess_33 (by decide) ?_
        exact ih_3 th_6 v4_7 _ _ _ hW (lv_sub hl [1, 2, 3, 4, 0] rfl) hf
  exact L_3 n th_0 v2_0 _ _ _ hW (lv_sub hl [1, 2, 3, 4, 0] rfl) hf
def s_X5_isNamed_22 (n : Nat) (z_p2 : Nat) (th_0 : OS) (p2_0 : OS) (w1_j22 : Int32) (w3_j22 : Int32) (w4_j22 : Int32) (rc_22 : (Int32) → Option (Int32)) (w5_j22 : Int32) : Option (Int32) :=
  if w4_j22 ≤ w5_j22 then (
  some (1 : Int32)) else (
  bnd (f_X6_get n (7 : Int32) 56 (th_0.2.1 7) w1_j22 (w5_j22 - w3_j22)) (fun (r_2 : Int32) =>
  bnd (f_X1_at n z_p2 p2_0 w5_j22) (fun (r_3 : Int32) =>
  if r_2 = r_3 then (
  Let (w5_j22 + (1 : Int32)) (fun v5_4 : Int32 =>
  rc_22 v5_4)) else (
  some (0 : Int32)))))
def l_X5_isNamed_22 (n : Nat) (z_p2 : Nat) (th_0 : OS) (p2_0 : OS) (w1_j22 : Int32) (w3_j22 : Int32) (w4_j22 : Int32) : Nat → (Int32) → Option (Int32)
  | 0 => fun _ => none
  | N + 1 => s_X5_isNamed_22 n z_p2 th_0 p2_0 w1_j22 w3_j22 w4_j22 (l_X5_isNamed_22 n z_p2 th_0 p2_0 w1_j22 w3_j22 w4_j22 N)
def f_X5_isNamed (n : Nat) (th_0 : OS) (z_p2 : Nat) (p2_0 : OS) (v1_0 : Int32) (v3_0 : Int32) (v4_0 : Int32) : Option (Int32) :=
  bnd (f_X6_get n (7 : Int32) 56 (th_0.2.1 7) v1_0 (6 : Int32)) (fun (r_1 : Int32) =>
  if r_1 = (v4_0 - v3_0) then (
  l_X5_isNamed_22 n z_p2 th_0 p2_0 v1_0 v3_0 v4_0 n v3_0) else (
  some (0 : Int32)))
set_option maxHeartbeats 4000000 in
set_option maxRecDepth 100000 in
theorem c_X5_isNamed (n : Nat) (l : Launch) (k : KT) (a_th : Nat → Nat) (a_p2 : Nat → Nat) (th_0 : OS) (z_p2 : Nat) (p2_0 : OS) (v1_0 : Int32) (v3_0 : Int32) (v4_0 : Int32) (res : (Int32)) (hf : f_X5_isNamed n th_0 z_p2 p2_0 v1_0 v3_0 v4_0 = some res) : CG l k yX5_isNamed cX5_isNamed 6 (some .boolean) 1 0 0 23 [.ref (a_th 0), .int v1_0, .ref (a_p2 0), .int v3_0, .int v4_0] (wRules k a_th th_0 ++ wBytes k a_p2 z_p2 p2_0) (Qi k (fun u : Unit => wRules k a_th th_0 ++ wBytes k a_p2 z_p2 p2_0) (fun (r : Int32) (u : Unit) => res = r)) := by
  refine CG.ofI (by decide) (Nat.le_of_ble_eq_true rfl) (fun p e s m args below meth c A Q E hnm hW hA hret ls hl => ?_)
  have hl : lv_has ls 6 [(0, .ref (a_th 0)), (1, .int v1_0), (2, .ref (a_p2 0)), (3, .int v3_0), (4, .int v4_0)] := hl
  unfold f_X5_isNamed at hf
  refine k_aload_n E hl 0 dX5_isNamed_0 rfl ?_
  refine gf_X5_38 E hW 0 rfl rfl dX5_isNamed_1 ?_
  refine k_iload_n E hl 1 dX5_isNamed_4 rfl ?_
  refine lv_bipush (v := (6 : Int32)) E.hx E.hb dX5_isNamed_5 bp_6 ?_
  obtain ⟨r_1, hg, hf⟩ := ob hf
  refine k_callVi (As := [.int v1_0, .int (6 : Int32)]) (rest := []) (ws2 := fun u => wRules k a_th th_0 ++ wBytes k a_p2 z_p2 p2_0) (c_X6_get n l k (fun j => a_th (1 + j)) (7 : Int32) 56 (th_0.2.1 7) v1_0 (6 : Int32) r_1 hg) E vl_X5_91 dX5_isNamed_7 rfl [1, 2] 7 1 hW hA hl rfl rfl rfl rfl ⟨by decide, by decide⟩ ⟨by decide, by decide⟩ (Nat.le_of_ble_eq_true rfl) rfl (fun _ => rfl) (fun _ => rfl) (fun r u H locs hp hW => ?_)
  cases hp
  have hW : WD k A s.heap (wRules k a_th th_0 ++ wBytes k a_p2 z_p2 p2_0) H locs := hW
  refine k_iload E hl 4 dX5_isNamed_10 rfl ?_
  refine k_iload_n E hl 3 dX5_isNamed_12 rfl ?_
  refine lv_isub E.hx E.hb dX5_isNamed_13 ?_
  refine lv_icmp_eq (tgt := 19) E.hx E.hb dX5_isNamed_14 (by decide) (fun hc => ?_) (fun hc => ?_)
  · have hf := oT hc hf
    refine k_iload_n E hl 3 dX5_isNamed_19 rfl ?_
    refine k_istore (lv' := [(5, .int v3_0), (0, .ref (a_th 0)), (1, .int v1_0), (2, .ref (a_p2 0)), (3, .int v3_0), (4, .int v4_0)]) E rfl hl dX5_isNamed_20 (by decide) rfl (fun ls hl => ?_)
    have L_22 : ∀ (N_22 : Nat) (w5_j22 : Int32) (H : Heap) (locs : List Loc) (ls : Array Slot) (hW : WD k A s.heap (wRules k a_th th_0 ++ wBytes k a_p2 z_p2 p2_0) H locs) (hl : lv_has ls 6 [(0, .ref (a_th 0)), (1, .int v1_0), (2, .ref (a_p2 0)), (3, .int v3_0), (4, .int v4_0), (5, .int w5_j22)]) (hf : l_X5_isNamed_22 n z_p2 th_0 p2_0 v1_0 v3_0 v4_0 N_22 w5_j22 = some res), W p l e { frames := 1, cells := 0, slots := 0, locals := 23 } s m args below meth c H locs 0 0 Q (F0 m 22 ls []) := by
      intro N_22
      induction N_22 with
      | zero => intro w5_j22 H locs ls hW hl hf; exact o0 hf
      | succ N_22 ih_22 =>
        intro w5_j22 H locs ls hW hl hf
        have hf : s_X5_isNamed_22 n z_p2 th_0 p2_0 v1_0 v3_0 v4_0 (l_X5_isNamed_22 n z_p2 th_0 p2_0 v1_0 v3_0 v4_0 N_22) w5_j22 = some res := hf
        unfold s_X5_isNamed_22 at hf
        refine k_iload E hl 5 dX5_isNamed_22 rfl ?_
        refine k_iload E hl 4 dX5_isNamed_24 rfl ?_
        refine lv_icmp_ge (tgt := 58) E.hx E.hb dX5_isNamed_26 (by decide) (fun hc => ?_) (fun hc => ?_)
        · have hf := oT hc hf
          refine lv_iconst (v := (1 : Int32)) E.hx E.hb dX5_isNamed_58 ic_1 ?_
          exact hret _ () _ _ _ _ _ _ hW (Option.some.inj hf).symm (by decide) (by decide) (by decide) dX5_isNamed_59
        · have hf := oF hc hf
          refine k_aload_n E hl 0 dX5_isNamed_29 rfl ?_
          refine gf_X5_38 E hW 0 rfl rfl dX5_isNamed_30 ?_
          refine k_iload_n E hl 1 dX5_isNamed_33 rfl ?_
          refine k_iload E hl 5 dX5_isNamed_34 rfl ?_
          refine k_iload_n E hl 3 dX5_isNamed_36 rfl ?_
          refine lv_isub E.hx E.hb dX5_isNamed_37 ?_
          obtain ⟨r_2, hg, hf⟩ := ob hf
          refine k_callVi (As := [.int v1_0, .int (w5_j22 - v3_0)]) (rest := []) (ws2 := fun u => wRules k a_th th_0 ++ wBytes k a_p2 z_p2 p2_0) (c_X6_get n l k (fun j => a_th (1 + j)) (7 : Int32) 56 (th_0.2.1 7) v1_0 (w5_j22 - v3_0) r_2 hg) E vl_X5_91 dX5_isNamed_38 rfl [1, 2] 7 1 hW hA hl rfl rfl rfl rfl ⟨by decide, by decide⟩ ⟨by decide, by decide⟩ (Nat.le_of_ble_eq_true rfl) rfl (fun _ => rfl) (fun _ => rfl) (fun r u H locs hp hW => ?_)
          cases hp
          have hW : WD k A s.heap (wRules k a_th th_0 ++ wBytes k a_p2 z_p2 p2_0) H locs := hW
          refine k_aload_n E hl 2 dX5_isNamed_41 rfl ?_
          refine k_iload E hl 5 dX5_isNamed_42 rfl ?_
          obtain ⟨r_3, hg, hf⟩ := ob hf
          refine k_callVi (As := [.int w5_j22]) (rest := [.int r_2]) (ws2 := fun u => wRules k a_th th_0 ++ wBytes k a_p2 z_p2 p2_0) (c_X1_at n l k a_p2 z_p2 p2_0 w5_j22 r_3 hg) E vl_X5_77 dX5_isNamed_44 rfl [3, 4] 2 3 hW hA hl rfl rfl rfl rfl ⟨by decide, by decide⟩ ⟨by decide, by decide⟩ (Nat.le_of_ble_eq_true rfl) rfl (fun _ => rfl) (fun _ => rfl) (fun r u H locs hp hW => ?_)
          cases hp
          have hW : WD k A s.heap (wRules k a_th th_0 ++ wBytes k a_p2 z_p2 p2_0) H locs := hW
          refine lv_icmp_eq (tgt := 52) E.hx E.hb dX5_isNamed_47 (by decide) (fun hc => ?_) (fun hc => ?_)
          · have hf := oT hc hf
            obtain ⟨v5_4, ev5_4, hf⟩ := oL hf
            refine k_iinc (lv' := [(5, .int v5_4), (0, .ref (a_th 0)), (1, .int v1_0), (2, .ref (a_p2 0)), (3, .int v3_0), (4, .int v4_0)]) E hl 5 dX5_isNamed_52 rfl (ev5_4.trans (congrArg (fun z => w5_j22 + z) ic_1.symm)) (by decide) rfl (fun ls hl => ?_)
            refine lv_goto (tgt := 22) E.hx E.hb dX5_isNamed_55 (by decide) ?_
            exact ih_22 v5_4 _ _ _ hW (lv_sub hl [1, 2, 3, 4, 5, 0] rfl) hf
          · have hf := oF hc hf
            refine lv_iconst (v := (0 : Int32)) E.hx E.hb dX5_isNamed_50 ic_0 ?_
            exact hret _ () _ _ _ _ _ _ hW (Option.some.inj hf).symm (by decide) (by decide) (by decide) dX5_isNamed_51
    exact L_22 n v3_0 _ _ _ hW (lv_sub hl [1, 2, 3, 4, 5, 0] rfl) hf
  · have hf := oF hc hf
    refine lv_iconst (v := (0 : Int32)) E.hx E.hb dX5_isNamed_17 ic_0 ?_
    exact hret _ () _ _ _ _ _ _ hW (Option.some.inj hf).symm (by decide) (by decide) (by decide) dX5_isNamed_18
def s_X5_processNamed_3 (n : Nat) (z_p1 : Nat) (th_0 : OS) (p1_0 : OS) (w2_j3 : Int32) (w3_j3 : Int32) (rc_3 : (Int32) → Option (Int32)) (w4_j3 : Int32) : Option (Int32) :=
  if (th_0.1 1) ≤ w4_j3 then (
  some (-1 : Int32)) else (
  bnd (f_X5_isNamed n th_0 z_p1 p1_0 w4_j3 w2_j3 w3_j3) (fun (r_1 : Int32) =>
  if r_1 = 0 then (
  Let (w4_j3 + (1 : Int32)) (fun v4_2 : Int32 =>
  rc_3 v4_2)) else (
  some w4_j3)))
def l_X5_processNamed_3 (n : Nat) (z_p1 : Nat) (th_0 : OS) (p1_0 : OS) (w2_j3 : Int32) (w3_j3 : Int32) : Nat → (Int32) → Option (Int32)
  | 0 => fun _ => none
  | N + 1 => s_X5_processNamed_3 n z_p1 th_0 p1_0 w2_j3 w3_j3 (l_X5_processNamed_3 n z_p1 th_0 p1_0 w2_j3 w3_j3 N)
def f_X5_processNamed (n : Nat) (th_0 : OS) (z_p1 : Nat) (p1_0 : OS) (v2_0 : Int32) (v3_0 : Int32) : Option (Int32) :=
  l_X5_processNamed_3 n z_p1 th_0 p1_0 v2_0 v3_0 n (0 : Int32)
set_option maxHeartbeats 4000000 in
set_option maxRecDepth 100000 in
theorem c_X5_processNamed (n : Nat) (l : Launch) (k : KT) (a_th : Nat → Nat) (a_p1 : Nat → Nat) (th_0 : OS) (z_p1 : Nat) (p1_0 : OS) (v2_0 : Int32) (v3_0 : Int32) (res : (Int32)) (hf : f_X5_processNamed n th_0 z_p1 p1_0 v2_0 v3_0 = some res) : CG l k yX5_processNamed cX5_processNamed 5 (some .int) 2 0 0 48 [.ref (a_th 0), .ref (a_p1 0), .int v2_0, .int v3_0] (wRules k a_th th_0 ++ wBytes k a_p1 z_p1 p1_0) (Qi k (fun u : Unit => wRules k a_th th_0 ++ wBytes k a_p1 z_p1 p1_0) (fun (r : Int32) (u : Unit) => res = r)) := by
  refine CG.ofI (by decide) (Nat.le_of_ble_eq_true rfl) (fun p e s m args below meth c A Q E hnm hW hA hret ls hl => ?_)
  have hl : lv_has ls 5 [(0, .ref (a_th 0)), (1, .ref (a_p1 0)), (2, .int v2_0), (3, .int v3_0)] := hl
  unfold f_X5_processNamed at hf
  refine lv_iconst (v := (0 : Int32)) E.hx E.hb dX5_processNamed_0 ic_0 ?_
  refine k_istore (lv' := [(4, .int (0 : Int32)), (0, .ref (a_th 0)), (1, .ref (a_p1 0)), (2, .int v2_0), (3, .int v3_0)]) E rfl hl dX5_processNamed_1 (by decide) rfl (fun ls hl => ?_)
  have L_3 : ∀ (N_3 : Nat) (w4_j3 : Int32) (H : Heap) (locs : List Loc) (ls : Array Slot) (hW : WD k A s.heap (wRules k a_th th_0 ++ wBytes k a_p1 z_p1 p1_0) H locs) (hl : lv_has ls 5 [(0, .ref (a_th 0)), (1, .ref (a_p1 0)), (2, .int v2_0), (3, .int v3_0), (4, .int w4_j3)]) (hf : l_X5_processNamed_3 n z_p1 th_0 p1_0 v2_0 v3_0 N_3 w4_j3 = some res), W p l e { frames := 2, cells := 0, slots := 0, locals := 48 } s m args below meth c H locs 0 0 Q (F0 m 3 ls []) := by
    intro N_3
    induction N_3 with
    | zero => intro w4_j3 H locs ls hW hl hf; exact o0 hf
    | succ N_3 ih_3 =>
      intro w4_j3 H locs ls hW hl hf
      have hf : s_X5_processNamed_3 n z_p1 th_0 p1_0 v2_0 v3_0 (l_X5_processNamed_3 n z_p1 th_0 p1_0 v2_0 v3_0 N_3) w4_j3 = some res := hf
      unfold s_X5_processNamed_3 at hf
      refine k_iload E hl 4 dX5_processNamed_3 rfl ?_
      refine k_aload_n E hl 0 dX5_processNamed_5 rfl ?_
      refine gf_X5_15 E hW 0 rfl rfl dX5_processNamed_6 ?_
      refine lv_icmp_ge (tgt := 33) E.hx E.hb dX5_processNamed_9 (by decide) (fun hc => ?_) (fun hc => ?_)
      · have hf := oT hc hf
        refine lv_iconst (v := (-1 : Int32)) E.hx E.hb dX5_processNamed_33 ic_m1 ?_
        exact hret _ () _ _ _ _ _ _ hW (Option.some.inj hf).symm rfl (by decide) (by decide) dX5_processNamed_34
      · have hf := oF hc hf
        refine k_aload_n E hl 0 dX5_processNamed_12 rfl ?_
        refine k_iload E hl 4 dX5_processNamed_13 rfl ?_
        refine k_aload_n E hl 1 dX5_processNamed_15 rfl ?_
        refine k_iload_n E hl 2 dX5_processNamed_16 rfl ?_
        refine k_iload_n E hl 3 dX5_processNamed_17 rfl ?_
        obtain ⟨r_1, hg, hf⟩ := ob hf
        refine k_callVi (As := [.int w4_j3, .ref (a_p1 0), .int v2_0, .int v3_0]) (rest := []) (ws2 := fun u => wRules k a_th th_0 ++ wBytes k a_p1 z_p1 p1_0) (c_X5_isNamed n l k a_th a_p1 th_0 z_p1 p1_0 w4_j3 v2_0 v3_0 r_1 hg) E vl_X5_87 dX5_processNamed_18 rfl [0, 1, 2, 3, 4] 6 0 hW hA hl rfl rfl rfl rfl ⟨by decide, by decide⟩ ⟨by decide, by decide⟩ (Nat.le_of_ble_eq_true rfl) rfl (fun _ => rfl) (fun _ => rfl) (fun r u H locs hp hW => ?_)
        cases hp
        have hW : WD k A s.heap (wRules k a_th th_0 ++ wBytes k a_p1 z_p1 p1_0) H locs := hW
        refine lv_if_eq (tgt := 27) E.hx E.hb dX5_processNamed_21 (by decide) (fun hc => ?_) (fun hc => ?_)
        · have hf := oT hc hf
          obtain ⟨v4_2, ev4_2, hf⟩ := oL hf
          refine k_iinc (lv' := [(4, .int v4_2), (0, .ref (a_th 0)), (1, .ref (a_p1 0)), (2, .int v2_0), (3, .int v3_0)]) E hl 4 dX5_processNamed_27 rfl (ev4_2.trans (congrArg (fun z => w4_j3 + z) ic_1.symm)) (by decide) rfl (fun ls hl => ?_)
          refine lv_goto (tgt := 3) E.hx E.hb dX5_processNamed_30 (by decide) ?_
          exact ih_3 v4_2 _ _ _ hW (lv_sub hl [1, 2, 3, 4, 0] rfl) hf
        · have hf := oF hc hf
          refine k_iload E hl 4 dX5_processNamed_24 rfl ?_
          exact hret _ () _ _ _ _ _ _ hW (Option.some.inj hf).symm rfl (by decide) (by decide) dX5_processNamed_26
  exact L_3 n (0 : Int32) _ _ _ hW (lv_sub hl [1, 2, 3, 4, 0] rfl) hf
def f_X5_isHearing (n : Nat) (th_0 : OS) (v1_0 : Int32) : Option (Int32) :=
  if (th_0.1 2) ≤ 0 then (
  some (0 : Int32)) else (
  oN ((th_0.1 2) = 0) (
  if (rm32 v1_0 (th_0.1 2)) = 0 then (
  some (1 : Int32)) else (
  some (0 : Int32))))
set_option maxHeartbeats 4000000 in
set_option maxRecDepth 100000 in
theorem c_X5_isHearing (n : Nat) (l : Launch) (k : KT) (a_th : Nat → Nat) (th_0 : OS) (v1_0 : Int32) (res : (Int32)) (hf : f_X5_isHearing n th_0 v1_0 = some res) : CG l k yX5_isHearing cX5_isHearing 2 (some .boolean) 0 0 0 0 [.ref (a_th 0), .int v1_0] (wRules k a_th th_0) (Qi k (fun u : Unit => wRules k a_th th_0) (fun (r : Int32) (u : Unit) => res = r)) := by
  refine CG.ofI (by decide) (Nat.le_of_ble_eq_true rfl) (fun p e s m args below meth c A Q E hnm hW hA hret ls hl => ?_)
  have hl : lv_has ls 2 [(0, .ref (a_th 0)), (1, .int v1_0)] := hl
  unfold f_X5_isHearing at hf
  refine k_aload_n E hl 0 dX5_isHearing_0 rfl ?_
  refine gf_X5_18 E hW 0 rfl rfl dX5_isHearing_1 ?_
  refine lv_if_le (tgt := 20) E.hx E.hb dX5_isHearing_4 (by decide) (fun hc => ?_) (fun hc => ?_)
  · have hf := oT hc hf
    refine lv_iconst (v := (0 : Int32)) E.hx E.hb dX5_isHearing_20 ic_0 ?_
    exact hret _ () _ _ _ _ _ _ hW (Option.some.inj hf).symm (by decide) (by decide) (by decide) dX5_isHearing_21
  · have hf := oF hc hf
    refine k_iload_n E hl 1 dX5_isHearing_7 rfl ?_
    refine k_aload_n E hl 0 dX5_isHearing_8 rfl ?_
    refine gf_X5_18 E hW 0 rfl rfl dX5_isHearing_9 ?_
    obtain ⟨hz, hf⟩ := oG hf
    refine lv_irem E.hx E.hb dX5_isHearing_12 hz ?_
    refine lv_if_ne (tgt := 20) E.hx E.hb dX5_isHearing_13 (by decide) (fun hc => ?_) (fun hc => ?_)
    · have hf := oF hc hf
      refine lv_iconst (v := (0 : Int32)) E.hx E.hb dX5_isHearing_20 ic_0 ?_
      exact hret _ () _ _ _ _ _ _ hW (Option.some.inj hf).symm (by decide) (by decide) (by decide) dX5_isHearing_21
    · have hf := oT hc hf
      refine lv_iconst (v := (1 : Int32)) E.hx E.hb dX5_isHearing_16 ic_1 ?_
      refine lv_goto (tgt := 21) E.hx E.hb dX5_isHearing_17 (by decide) ?_
      exact hret _ () _ _ _ _ _ _ hW (Option.some.inj hf).symm (by decide) (by decide) (by decide) dX5_isHearing_21
def f_X5_isFading (n : Nat) (th_0 : OS) (v1_0 : Int32) : Option (Int32) :=
  if (th_0.1 4) ≤ 0 then (
  some (0 : Int32)) else (
  oN ((th_0.1 4) = 0) (
  if (rm32 v1_0 (th_0.1 4)) = 0 then (
  some (1 : Int32)) else (
  some (0 : Int32))))
set_option maxHeartbeats 4000000 in
set_option maxRecDepth 100000 in
theorem c_X5_isFading (n : Nat) (l : Launch) (k : KT) (a_th : Nat → Nat) (th_0 : OS) (v1_0 : Int32) (res : (Int32)) (hf : f_X5_isFading n th_0 v1_0 = some res) : CG l k yX5_isFading cX5_isFading 2 (some .boolean) 0 0 0 0 [.ref (a_th 0), .int v1_0] (wRules k a_th th_0) (Qi k (fun u : Unit => wRules k a_th th_0) (fun (r : Int32) (u : Unit) => res = r)) := by
  refine CG.ofI (by decide) (Nat.le_of_ble_eq_true rfl) (fun p e s m args below meth c A Q E hnm hW hA hret ls hl => ?_)
  have hl : lv_has ls 2 [(0, .ref (a_th 0)), (1, .int v1_0)] := hl
  unfold f_X5_isFading at hf
  refine k_aload_n E hl 0 dX5_isFading_0 rfl ?_
  refine gf_X5_24 E hW 0 rfl rfl dX5_isFading_1 ?_
  refine lv_if_le (tgt := 20) E.hx E.hb dX5_isFading_4 (by decide) (fun hc => ?_) (fun hc => ?_)
  · have hf := oT hc hf
    refine lv_iconst (v := (0 : Int32)) E.hx E.hb dX5_isFading_20 ic_0 ?_
    exact hret _ () _ _ _ _ _ _ hW (Option.some.inj hf).symm (by decide) (by decide) (by decide) dX5_isFading_21
  · have hf := oF hc hf
    refine k_iload_n E hl 1 dX5_isFading_7 rfl ?_
    refine k_aload_n E hl 0 dX5_isFading_8 rfl ?_
    refine gf_X5_24 E hW 0 rfl rfl dX5_isFading_9 ?_
    obtain ⟨hz, hf⟩ := oG hf
    refine lv_irem E.hx E.hb dX5_isFading_12 hz ?_
    refine lv_if_ne (tgt := 20) E.hx E.hb dX5_isFading_13 (by decide) (fun hc => ?_) (fun hc => ?_)
    · have hf := oF hc hf
      refine lv_iconst (v := (0 : Int32)) E.hx E.hb dX5_isFading_20 ic_0 ?_
      exact hret _ () _ _ _ _ _ _ hW (Option.some.inj hf).symm (by decide) (by decide) (by decide) dX5_isFading_21
    · have hf := oT hc hf
      refine lv_iconst (v := (1 : Int32)) E.hx E.hb dX5_isFading_16 ic_1 ?_
      refine lv_goto (tgt := 21) E.hx E.hb dX5_isFading_17 (by decide) ?_
      exact hret _ () _ _ _ _ _ _ hW (Option.some.inj hf).symm (by decide) (by decide) (by decide) dX5_isFading_21
