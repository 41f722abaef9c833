theorem tm_68 : (Jvm.Cond.instanceMethod ({ cls := "java/lang/Object", name := "<init>", desc := "()V" } : Jvm.MethodName)) ∈ lw_tbl := List.mem_of_getElem? (i := 68) (by decide +kernel)
theorem tm_69 : (Jvm.Cond.code ({ cls := "java/lang/Object", name := "<init>", desc := "()V" } : Jvm.MethodName) object_method_1_code (1 : Nat) (Option.none : Option Jvm.ClassFile.FieldType)) ∈ lw_tbl := List.mem_of_getElem? (i := 69) (by decide +kernel)
theorem tm_109 : (Jvm.Cond.arrayClass Jvm.ClassFile.FieldType.int) ∈ lw_tbl := List.mem_of_getElem? (i := 109) (by decide +kernel)
theorem tm_219 : (Jvm.Cond.arrayClass Jvm.ClassFile.FieldType.long) ∈ lw_tbl := List.mem_of_getElem? (i := 219) (by decide +kernel)
theorem tm_88 : (Jvm.Cond.arrayClass Jvm.ClassFile.FieldType.byte) ∈ lw_tbl := List.mem_of_getElem? (i := 88) (by decide +kernel)
theorem tm_274 : (Jvm.Cond.classLink "MemoryCourt$Past" (9 : Nat) "MemoryCourt$Court") ∈ lw_tbl := List.mem_of_getElem? (i := 274) (by decide +kernel)
/-! things that are made: rows of new objects and arrays, contracts of the constructors -/
def adr (a0 : Nat) (u : Nat → Nat) : Nat → Nat
  | 0 => a0
  | j + 1 => u j
def lst (l : List Nat) : Nat → Nat := fun j => l.getD j 0
def zOS : OS := ((fun _ => 0), (fun _ _ => 0), (fun _ _ => 0), (fun _ => 0))
def zPS : PS := ((fun _ => 0), (0, fun _ => zOS))
def zRd : OS := ((fun j => if j = 4 then -1 else 0), (fun _ _ => 0), (fun _ _ => 0), (fun _ => 0))
def zMo : OS := ((fun j => if j = 17 ∨ j = 19 ∨ j = 32 then -1 else 0), (fun _ _ => 0), (fun _ _ => 0), (fun _ => 0))
def AOH (k : KT) : Prop := ∀ (A : Nat → Prop) (U : State) (H : Heap), k.2.2 A U H → va_AO "MemoryCourt$Court" U
def IL (own : String) (index : Nat) (y : MethodName) (bytes : ByteArray) (mx : Nat) (n : Nat) : Prop :=
  (Cond.methodLink own index y ∈ lw_tbl ∧ Cond.instanceMethod y ∈ lw_tbl ∧ Cond.initialized y.cls ∈ lw_tbl ∧ Cond.code y bytes mx none ∈ lw_tbl) ∧ y.name = "<init>" ∧ y.cls ≠ "java/lang/invoke/MethodHandle" ∧ y.cls ≠ "java/lang/invoke/VarHandle" ∧ (parseMethodDescriptor y.desc).map (fun d => d.parameters.length) = some n
def ILN (own host : String) (index : Nat) (y : MethodName) (bytes : ByteArray) (mx : Nat) (n : Nat) : Prop :=
  (Cond.methodLinkNest own index y host ∈ lw_tbl ∧ Cond.instanceMethod y ∈ lw_tbl ∧ Cond.initialized y.cls ∈ lw_tbl ∧ Cond.code y bytes mx none ∈ lw_tbl) ∧ y.name = "<init>" ∧ y.cls ≠ "java/lang/invoke/MethodHandle" ∧ y.cls ≠ "java/lang/invoke/VarHandle" ∧ (parseMethodDescriptor y.desc).map (fun d => d.parameters.length) = some n
section KNW
variable {p : Program} {l : Launch} {e : Env} {R : Room} {s : State} {m : MethodId} {args : Array Value} {below : List Frame} {meth : Method} {c : Code} {H : Heap} {locs : List Loc} {cells slots : Nat} {Q : State → Prop}
variable {cc : ByteArray} {pc nL : Nat} {ls : Array Slot} {rest : List Value} {k : KT} {A : Nat → Prop} {ws : va_W} {own : String} {a : Nat}
theorem IL.cw {index mx n fr mc ms loc : Nat} {y : MethodName} {bytes : ByteArray} (h : IL own index y bytes mx n) (E : E0 p s m c cc nL own k A) (hR : fr + 1 ≤ R.frames ∧ 8 + (mx + 11) + loc ≤ R.locals) :
    CallB R s args own index y bytes mx none [Cond.code y bytes mx none] { frames := fr, cells := mc, slots := ms, locals := loc } mc ms n ∧ y.name = "<init>" ∧ (Cond.instanceMethod y).before args s = true := by
  obtain ⟨⟨h1, h2, h4, h5⟩, hi, hd⟩ := h
  exact ⟨callB_of (Ts := lw_tbl.filter tbOK) n E.fix.2.2.2.2 (fun w hw => by rw [List.mem_singleton.mp hw]; exact ⟨List.mem_filter.mpr ⟨h5, rfl⟩, Or.inl rfl⟩) rfl rfl rfl (E.w h4 rfl) (E.w h1 rfl) hd hR, hi, E.w h2 rfl⟩
theorem ILN.cw {host : String} {index mx n fr mc ms loc : Nat} {y : MethodName} {bytes : ByteArray} (h : ILN own host index y bytes mx n) (E : E0 p s m c cc nL own k A) (hR : fr + 1 ≤ R.frames ∧ 8 + (mx + 11) + loc ≤ R.locals) :
    va_CN R s args own index y host bytes mx none [Cond.code y bytes mx none] { frames := fr, cells := mc, slots := ms, locals := loc } mc ms n ∧ y.name = "<init>" ∧ (Cond.instanceMethod y).before args s = true := by
  obtain ⟨⟨h1, h2, h4, h5⟩, hi, hd⟩ := h
  exact ⟨va_cnB (Ts := lw_tbl.filter tbOK) n E.fix.2.2.2.2 (fun w hw => by rw [List.mem_singleton.mp hw]; exact ⟨List.mem_filter.mpr ⟨h5, rfl⟩, Or.inl rfl⟩) rfl rfl rfl (va_Nw.of rfl (E.w (args := args) h1 rfl)) (E.w h4 rfl) hd hR, hi, E.w h2 rfl⟩
theorem k_callNew {index mx n fr mc ms loc : Nat} {y : MethodName} {bytes : ByteArray} {S : Type} {W1 : S → va_W} {post : S → Prop} {As : List Value} {lv : List (Nat × Value)} {st0 : List Value} {b : Nat} {e0 : va_E}
    (hM : CG l k y bytes mx none fr mc ms loc (.ref b :: As) [(b, e0)] (Qv k W1 post)) (E : E0 p s m c cc nL own k A) (hV : IL own index y bytes mx n) (hdg : decode cc pc = .ok (.invokespecial index, 3)) (hst : st0 = As.reverse ++ .ref b :: rest)
    (hW : WD k A s.heap (ws ++ [(b, e0)]) H locs) (hA : ∀ q : Nat, s.heap.size ≤ q → A q) (hl : lv_has ls nL lv) (hn : As.length = n) (hR : fr + 1 ≤ R.frames ∧ 8 + (mx + 11) + loc ≤ R.locals) (hroom : cells + mc ≤ R.cells ∧ slots + ms ≤ R.slots) (hcat : (rest.map fun v => v.category).sum ≤ 8)
    (q : ∀ (u : S) (H1 : Heap) (locs1 : List Loc), post u → WD k A s.heap (ws ++ W1 u) H1 locs1 → W p l e R s m args below meth c H1 locs1 (cells + mc) (slots + ms) Q (F0 m (pc + 3) ls rest)) : W p l e R s m args below meth c H locs cells slots Q (F0 m pc ls st0) := by
  subst hst
  obtain ⟨hfree, hpre⟩ := pre_callG (cx := []) E hW hA [] rfl rfl
  refine va_callv (va_runI (As := As) (rest := rest) E.fix (hM H.size) (hV.cw E hR) ⟨Bpre.blind, fun U hU hw => ⟨rfl, hpre U hU hw⟩⟩ rfl hn hl.1 rfl (lv_room hcat) hdg hroom) hW.2.2 (fun q _ h => hfree q h) hfree (fun u t H1 locs1 ht hvm hp hB hz hk hS => ?_)
  obtain ⟨hP1, hD1⟩ := hB
  rw [ht] at hP1
  obtain ⟨g1, g2⟩ := call_frameG (cx := []) (cx1 := []) hW.1 hW.2.1 [] rfl rfl hfree hk hP1 hD1
  exact q u H1 locs1 hp ⟨g1, g2, hS⟩
theorem k_callNewN {host : String} {index mx n fr mc ms loc : Nat} {y : MethodName} {bytes : ByteArray} {S : Type} {W1 : S → va_W} {post : S → Prop} {As : List Value} {lv : List (Nat × Value)} {st0 : List Value} {b : Nat} {e0 : va_E}
    (hM : CG l k y bytes mx none fr mc ms loc (.ref b :: As) [(b, e0)] (Qv k W1 post)) (E : E0 p s m c cc nL own k A) (hV : ILN own host index y bytes mx n) (hdg : decode cc pc = .ok (.invokespecial index, 3)) (hst : st0 = As.reverse ++ .ref b :: rest)
    (hW : WD k A s.heap (ws ++ [(b, e0)]) H locs) (hA : ∀ q : Nat, s.heap.size ≤ q → A q) (hl : lv_has ls nL lv) (hn : As.length = n) (hR : fr + 1 ≤ R.frames ∧ 8 + (mx + 11) + loc ≤ R.locals) (hroom : cells + mc ≤ R.cells ∧ slots + ms ≤ R.slots) (hcat : (rest.map fun v => v.category).sum ≤ 8)
    (q : ∀ (u : S) (H1 : Heap) (locs1 : List Loc), post u → WD k A s.heap (ws ++ W1 u) H1 locs1 → W p l e R s m args below meth c H1 locs1 (cells + mc) (slots + ms) Q (F0 m (pc + 3) ls rest)) : W p l e R s m args below meth c H locs cells slots Q (F0 m pc ls st0) := by
  subst hst
  obtain ⟨hfree, hpre⟩ := pre_callG (cx := []) E hW hA [] rfl rfl
  refine va_callv (va_runIN (As := As) (rest := rest) E.fix (hM H.size) (hV.cw E hR) ⟨Bpre.blind, fun U hU hw => ⟨rfl, hpre U hU hw⟩⟩ rfl hn hl.1 rfl (lv_room hcat) hdg hroom) hW.2.2 (fun q _ h => hfree q h) hfree (fun u t H1 locs1 ht hvm hp hB hz hk hS => ?_)
  obtain ⟨hP1, hD1⟩ := hB
  rw [ht] at hP1
  obtain ⟨g1, g2⟩ := call_frameG (cx := []) (cx1 := []) hW.1 hW.2.1 [] rfl rfl hfree hk hP1 hD1
  exact q u H1 locs1 hp ⟨g1, g2, hS⟩
theorem k_objInit {idx : Nat} (E : E0 p s m c cc nL own k A) {lv : List (Nat × Value)} (hl : lv_has ls nL lv) (t : Cond.methodLink own idx Lib.objectInit ∈ lw_tbl) (hdg : decode cc pc = .ok (.invokespecial idx, 3)) (hf : 1 ≤ R.frames) (hlo : 12 ≤ R.locals)
    (q : W p l e R s m args below meth c H locs cells slots Q (F0 m (pc + 3) ls [])) : W p l e R s m args below meth c H locs cells slots Q (F0 m pc ls [.ref a]) :=
  W.objInit E.hx E.hb E.ho (E.w t rfl) (E.w tm_68 rfl) (E.w tm_69 rfl) rfl (hl.1.trans E.hml.symm) rfl hdg hf hlo q
theorem k_newI (E : E0 p s m c cc nL own k A) (hW : WD k A s.heap ws H locs) (hA : ∀ q : Nat, s.heap.size ≤ q → A q) {n : Int32} {N : Nat} (hn : ¬ n < 0) (hN : n.toNatClampNeg = N) (hb : N ≤ 100000) (hc : cells + 1 ≤ R.cells) (hs : slots + N ≤ R.slots) (hdg : decode cc pc = .ok (.newarray .int, 2))
    (q : ∀ (x : Nat) (H1 : Heap), WD k A s.heap (ws ++ [(x, .inl (k.2.1.1 0, N, .inl (fun _ => 0)))]) H1 locs → W p l e R s m args below meth c H1 locs (cells + 1) (slots + N) Q (F0 m (pc + 2) ls (.ref x :: rest))) : W p l e R s m args below meth c H locs cells slots Q (F0 m pc ls (.int n :: rest)) := by
  refine va_newa (atype := .int) (a0 := (N, .inl (fun _ => 0))) E.hx E.hb (E.w tm_109 rfl) rfl E.hK hW.1 hW.2.1 hW.2.2 hA (fun cA => rfl) hn hN (Nat.le_trans (Nat.mul_le_mul_right _ hb) (by decide)) hc hs hdg (fun x cA H1 hK1 h1 h2 h3 => ?_)
  have hcA : cA = k.2.1.1 0 := Option.some.inj ((hK1.2 4 (cA, .int) rfl).2.symm.trans (E.hK.2 0 (k.2.1.1 0, .int) rfl).2)
  subst hcA
  exact q x H1 ⟨h1, h2, h3⟩
theorem k_newJ (E : E0 p s m c cc nL own k A) (hW : WD k A s.heap ws H locs) (hA : ∀ q : Nat, s.heap.size ≤ q → A q) {n : Int32} {N : Nat} (hn : ¬ n < 0) (hN : n.toNatClampNeg = N) (hb : N ≤ 100000) (hc : cells + 1 ≤ R.cells) (hs : slots + N ≤ R.slots) (hdg : decode cc pc = .ok (.newarray .long, 2))
    (q : ∀ (x : Nat) (H1 : Heap), WD k A s.heap (ws ++ [(x, .inl (k.2.1.1 1, N, .inr (.inl (fun _ => 0))))]) H1 locs → W p l e R s m args below meth c H1 locs (cells + 1) (slots + N) Q (F0 m (pc + 2) ls (.ref x :: rest))) : W p l e R s m args below meth c H locs cells slots Q (F0 m pc ls (.int n :: rest)) := by
  refine va_newa (atype := .long) (a0 := (N, .inr (.inl (fun _ => 0)))) E.hx E.hb (E.w tm_219 rfl) rfl E.hK hW.1 hW.2.1 hW.2.2 hA (fun cA => rfl) hn hN (Nat.le_trans (Nat.mul_le_mul_right _ hb) (by decide)) hc hs hdg (fun x cA H1 hK1 h1 h2 h3 => ?_)
  have hcA : cA = k.2.1.1 1 := Option.some.inj ((hK1.2 4 (cA, .long) rfl).2.symm.trans (E.hK.2 1 (k.2.1.1 1, .long) rfl).2)
  subst hcA
  exact q x H1 ⟨h1, h2, h3⟩
theorem k_newB (E : E0 p s m c cc nL own k A) (hW : WD k A s.heap ws H locs) (hA : ∀ q : Nat, s.heap.size ≤ q → A q) {n : Int32} {N : Nat} (hn : ¬ n < 0) (hN : n.toNatClampNeg = N) (hb : N ≤ 100000) (hc : cells + 1 ≤ R.cells) (hs : slots + N ≤ R.slots) (hdg : decode cc pc = .ok (.newarray .byte, 2))
    (q : ∀ (x : Nat) (H1 : Heap), WD k A s.heap (ws ++ [(x, .inl (k.2.1.1 2, N, .inl (fun _ => 0)))]) H1 locs → W p l e R s m args below meth c H1 locs (cells + 1) (slots + N) Q (F0 m (pc + 2) ls (.ref x :: rest))) : W p l e R s m args below meth c H locs cells slots Q (F0 m pc ls (.int n :: rest)) := by
  refine va_newa (atype := .byte) (a0 := (N, .inl (fun _ => 0))) E.hx E.hb (E.w tm_88 rfl) rfl E.hK hW.1 hW.2.1 hW.2.2 hA (fun cA => rfl) hn hN (Nat.le_trans (Nat.mul_le_mul_right _ hb) (by decide)) hc hs hdg (fun x cA H1 hK1 h1 h2 h3 => ?_)
  have hcA : cA = k.2.1.1 2 := Option.some.inj ((hK1.2 4 (cA, .byte) rfl).2.symm.trans (E.hK.2 2 (k.2.1.1 2, .byte) rfl).2)
  subst hcA
  exact q x H1 ⟨h1, h2, h3⟩
theorem k_newQ (hO : AOH k) (E : E0 p s m c cc nL RX3 k A) (hW : WD k A s.heap ws H locs) (hA : ∀ q : Nat, s.heap.size ≤ q → A q) {n : Int32} {N : Nat} (hn : ¬ n < 0) (hN : n.toNatClampNeg = N) (hb : N ≤ 100000) (hc : cells + 1 ≤ R.cells) (hs : slots + N ≤ R.slots) (hdg : decode cc pc = .ok (.anewarray 9, 3))
    (q : ∀ (x : Nat) (H1 : Heap), WD k A s.heap (ws ++ [(x, .inl (k.2.1.1 3, N, .inr (.inr (.inr (.inr (fun _ => none))))))]) H1 locs → W p l e R s m args below meth c H1 locs (cells + 1) (slots + N) Q (F0 m (pc + 3) ls (.ref x :: rest))) : W p l e R s m args below meth c H locs cells slots Q (F0 m pc ls (.int n :: rest)) := by
  refine va_newq E.hx E.hb E.ho (E.w tm_274 rfl) (hO A s s.heap E.sf) E.hK hW.1 hW.2.1 hW.2.2 hA hn hN (Nat.le_trans (Nat.mul_le_mul_right _ hb) (by decide)) hc hs hdg (fun x cA H1 hK1 h1 h2 h3 => ?_)
  obtain ⟨_, _, _, _, _, z1⟩ := (hK1.2 4 (cA, .object "MemoryCourt$Court") rfl).2
  obtain ⟨_, _, _, _, _, z2⟩ := (E.hK.2 3 (k.2.1.1 3, .object "MemoryCourt$Court") rfl).2
  have hcA : cA = k.2.1.1 3 := Option.some.inj (z1.symm.trans z2)
  subst hcA
  exact q x H1 ⟨h1, h2, h3⟩
end KNW
theorem tm_75 : (Jvm.Cond.methodLink "MemoryCourt$Bytes" (3 : Nat) ({ cls := "java/lang/Object", name := "<init>", desc := "()V" } : Jvm.MethodName)) ∈ lw_tbl := List.mem_of_getElem? (i := 75) (by decide +kernel)
theorem tm_76 : (Jvm.Cond.methodLink "MemoryCourt$Bytes" (15 : Nat) ({ cls := "java/lang/Math", name := "max", desc := "(II)I" } : Jvm.MethodName)) ∈ lw_tbl := List.mem_of_getElem? (i := 76) (by decide +kernel)
theorem tm_100 : (Jvm.Cond.methodLink "MemoryCourt$Table" (1 : Nat) ({ cls := "java/lang/Object", name := "<init>", desc := "()V" } : Jvm.MethodName)) ∈ lw_tbl := List.mem_of_getElem? (i := 100) (by decide +kernel)
theorem tm_101 : (Jvm.Cond.methodLink "MemoryCourt$Table" (13 : Nat) ({ cls := "java/lang/Math", name := "max", desc := "(II)I" } : Jvm.MethodName)) ∈ lw_tbl := List.mem_of_getElem? (i := 101) (by decide +kernel)
theorem tm_94 : (Jvm.Cond.methodLink "MemoryCourt$Rules" (3 : Nat) ({ cls := "java/lang/Object", name := "<init>", desc := "()V" } : Jvm.MethodName)) ∈ lw_tbl := List.mem_of_getElem? (i := 94) (by decide +kernel)
theorem tm_95 : (Jvm.Cond.classLink "MemoryCourt$Rules" (33 : Nat) "MemoryCourt$Table") ∈ lw_tbl := List.mem_of_getElem? (i := 95) (by decide +kernel)
theorem tm_96 : (Jvm.Cond.instantiable "MemoryCourt$Table" (2 : Nat)) ∈ lw_tbl := List.mem_of_getElem? (i := 96) (by decide +kernel)
theorem tm_97 : (Jvm.Cond.methodLink "MemoryCourt$Rules" (35 : Nat) ({ cls := "MemoryCourt$Table", name := "<init>", desc := "(II)V" } : Jvm.MethodName)) ∈ lw_tbl := List.mem_of_getElem? (i := 97) (by decide +kernel)
theorem tm_98 : (Jvm.Cond.instanceMethod ({ cls := "MemoryCourt$Table", name := "<init>", desc := "(II)V" } : Jvm.MethodName)) ∈ lw_tbl := List.mem_of_getElem? (i := 98) (by decide +kernel)
theorem tm_99 : (Jvm.Cond.code ({ cls := "MemoryCourt$Table", name := "<init>", desc := "(II)V" } : Jvm.MethodName) prog_8_method_1_code (3 : Nat) (Option.none : Option Jvm.ClassFile.FieldType)) ∈ lw_tbl := List.mem_of_getElem? (i := 99) (by decide +kernel)
theorem tm_152 : (Jvm.Cond.methodLink "MemoryCourt$Court" (3 : Nat) ({ cls := "java/lang/Object", name := "<init>", desc := "()V" } : Jvm.MethodName)) ∈ lw_tbl := List.mem_of_getElem? (i := 152) (by decide +kernel)
theorem tm_153 : (Jvm.Cond.classLink "MemoryCourt$Court" (47 : Nat) "MemoryCourt$Table") ∈ lw_tbl := List.mem_of_getElem? (i := 153) (by decide +kernel)
theorem tm_154 : (Jvm.Cond.methodLink "MemoryCourt$Court" (49 : Nat) ({ cls := "MemoryCourt$Table", name := "<init>", desc := "(II)V" } : Jvm.MethodName)) ∈ lw_tbl := List.mem_of_getElem? (i := 154) (by decide +kernel)
theorem tm_273 : (Jvm.Cond.methodLink "MemoryCourt$Past" (3 : Nat) ({ cls := "java/lang/Object", name := "<init>", desc := "()V" } : Jvm.MethodName)) ∈ lw_tbl := List.mem_of_getElem? (i := 273) (by decide +kernel)
theorem tm_276 : (Jvm.Cond.fieldLink "MemoryCourt$Past" (11 : Nat) "MemoryCourt$Past" "courts" "[LMemoryCourt$Court;") ∈ lw_tbl := List.mem_of_getElem? (i := 276) (by decide +kernel)
theorem tm_277 : (Jvm.Cond.fieldLink "MemoryCourt$Past" (17 : Nat) "MemoryCourt$Past" "next" "I") ∈ lw_tbl := List.mem_of_getElem? (i := 277) (by decide +kernel)
theorem tm_225 : (Jvm.Cond.methodLink "MemoryCourt$Reader" (3 : Nat) ({ cls := "java/lang/Object", name := "<init>", desc := "()V" } : Jvm.MethodName)) ∈ lw_tbl := List.mem_of_getElem? (i := 225) (by decide +kernel)
theorem tm_226 : (Jvm.Cond.classLink "MemoryCourt$Reader" (9 : Nat) "MemoryCourt$Rules") ∈ lw_tbl := List.mem_of_getElem? (i := 226) (by decide +kernel)
theorem tm_90 : (Jvm.Cond.instantiable "MemoryCourt$Rules" (8 : Nat)) ∈ lw_tbl := List.mem_of_getElem? (i := 90) (by decide +kernel)
theorem tm_227 : (Jvm.Cond.methodLinkNest "MemoryCourt$Reader" (11 : Nat) ({ cls := "MemoryCourt$Rules", name := "<init>", desc := "()V" } : Jvm.MethodName) "MemoryCourt") ∈ lw_tbl := List.mem_of_getElem? (i := 227) (by decide +kernel)
theorem tm_92 : (Jvm.Cond.instanceMethod ({ cls := "MemoryCourt$Rules", name := "<init>", desc := "()V" } : Jvm.MethodName)) ∈ lw_tbl := List.mem_of_getElem? (i := 92) (by decide +kernel)
theorem tm_93 : (Jvm.Cond.code ({ cls := "MemoryCourt$Rules", name := "<init>", desc := "()V" } : Jvm.MethodName) prog_7_method_1_code (1 : Nat) (Option.none : Option Jvm.ClassFile.FieldType)) ∈ lw_tbl := List.mem_of_getElem? (i := 93) (by decide +kernel)
theorem tm_67 : (Jvm.Cond.methodLink "MemoryCourt" (3 : Nat) ({ cls := "java/lang/Object", name := "<init>", desc := "()V" } : Jvm.MethodName)) ∈ lw_tbl := List.mem_of_getElem? (i := 67) (by decide +kernel)
theorem tm_70 : (Jvm.Cond.classLink "MemoryCourt" (9 : Nat) "MemoryCourt$Bytes") ∈ lw_tbl := List.mem_of_getElem? (i := 70) (by decide +kernel)
theorem tm_71 : (Jvm.Cond.instantiable "MemoryCourt$Bytes" (2 : Nat)) ∈ lw_tbl := List.mem_of_getElem? (i := 71) (by decide +kernel)
theorem tm_72 : (Jvm.Cond.methodLink "MemoryCourt" (11 : Nat) ({ cls := "MemoryCourt$Bytes", name := "<init>", desc := "(I)V" } : Jvm.MethodName)) ∈ lw_tbl := List.mem_of_getElem? (i := 72) (by decide +kernel)
theorem tm_73 : (Jvm.Cond.instanceMethod ({ cls := "MemoryCourt$Bytes", name := "<init>", desc := "(I)V" } : Jvm.MethodName)) ∈ lw_tbl := List.mem_of_getElem? (i := 73) (by decide +kernel)
theorem tm_74 : (Jvm.Cond.code ({ cls := "MemoryCourt$Bytes", name := "<init>", desc := "(I)V" } : Jvm.MethodName) prog_3_method_1_code (2 : Nat) (Option.none : Option Jvm.ClassFile.FieldType)) ∈ lw_tbl := List.mem_of_getElem? (i := 74) (by decide +kernel)
theorem tm_318 : (Jvm.Cond.fieldLink "MemoryCourt" (18 : Nat) "MemoryCourt" "output" "LMemoryCourt$Bytes;") ∈ lw_tbl := List.mem_of_getElem? (i := 318) (by decide +kernel)
theorem tm_89 : (Jvm.Cond.classLink "MemoryCourt" (21 : Nat) "MemoryCourt$Rules") ∈ lw_tbl := List.mem_of_getElem? (i := 89) (by decide +kernel)
theorem tm_91 : (Jvm.Cond.methodLinkNest "MemoryCourt" (23 : Nat) ({ cls := "MemoryCourt$Rules", name := "<init>", desc := "()V" } : Jvm.MethodName) "MemoryCourt") ∈ lw_tbl := List.mem_of_getElem? (i := 91) (by decide +kernel)
theorem tm_147 : (Jvm.Cond.classLink "MemoryCourt" (28 : Nat) "MemoryCourt$Court") ∈ lw_tbl := List.mem_of_getElem? (i := 147) (by decide +kernel)
theorem tm_148 : (Jvm.Cond.instantiable "MemoryCourt$Court" (16 : Nat)) ∈ lw_tbl := List.mem_of_getElem? (i := 148) (by decide +kernel)
theorem tm_149 : (Jvm.Cond.methodLinkNest "MemoryCourt" (30 : Nat) ({ cls := "MemoryCourt$Court", name := "<init>", desc := "()V" } : Jvm.MethodName) "MemoryCourt") ∈ lw_tbl := List.mem_of_getElem? (i := 149) (by decide +kernel)
theorem tm_150 : (Jvm.Cond.instanceMethod ({ cls := "MemoryCourt$Court", name := "<init>", desc := "()V" } : Jvm.MethodName)) ∈ lw_tbl := List.mem_of_getElem? (i := 150) (by decide +kernel)
theorem tm_151 : (Jvm.Cond.code ({ cls := "MemoryCourt$Court", name := "<init>", desc := "()V" } : Jvm.MethodName) prog_4_method_1_code (1 : Nat) (Option.none : Option Jvm.ClassFile.FieldType)) ∈ lw_tbl := List.mem_of_getElem? (i := 151) (by decide +kernel)
theorem tm_220 : (Jvm.Cond.classLink "MemoryCourt" (38 : Nat) "MemoryCourt$Reader") ∈ lw_tbl := List.mem_of_getElem? (i := 220) (by decide +kernel)
theorem tm_221 : (Jvm.Cond.instantiable "MemoryCourt$Reader" (12 : Nat)) ∈ lw_tbl := List.mem_of_getElem? (i := 221) (by decide +kernel)
theorem tm_222 : (Jvm.Cond.methodLink "MemoryCourt" (40 : Nat) ({ cls := "MemoryCourt$Reader", name := "<init>", desc := "(LMemoryCourt$Bytes;LMemoryCourt$Court;)V" } : Jvm.MethodName)) ∈ lw_tbl := List.mem_of_getElem? (i := 222) (by decide +kernel)
theorem tm_223 : (Jvm.Cond.instanceMethod ({ cls := "MemoryCourt$Reader", name := "<init>", desc := "(LMemoryCourt$Bytes;LMemoryCourt$Court;)V" } : Jvm.MethodName)) ∈ lw_tbl := List.mem_of_getElem? (i := 223) (by decide +kernel)
theorem tm_224 : (Jvm.Cond.code ({ cls := "MemoryCourt$Reader", name := "<init>", desc := "(LMemoryCourt$Bytes;LMemoryCourt$Court;)V" } : Jvm.MethodName) prog_6_method_1_code (3 : Nat) (Option.none : Option Jvm.ClassFile.FieldType)) ∈ lw_tbl := List.mem_of_getElem? (i := 224) (by decide +kernel)
theorem tm_268 : (Jvm.Cond.classLink "MemoryCourt" (47 : Nat) "MemoryCourt$Past") ∈ lw_tbl := List.mem_of_getElem? (i := 268) (by decide +kernel)
theorem tm_269 : (Jvm.Cond.instantiable "MemoryCourt$Past" (3 : Nat)) ∈ lw_tbl := List.mem_of_getElem? (i := 269) (by decide +kernel)
theorem tm_270 : (Jvm.Cond.methodLinkNest "MemoryCourt" (49 : Nat) ({ cls := "MemoryCourt$Past", name := "<init>", desc := "()V" } : Jvm.MethodName) "MemoryCourt") ∈ lw_tbl := List.mem_of_getElem? (i := 270) (by decide +kernel)
theorem tm_271 : (Jvm.Cond.instanceMethod ({ cls := "MemoryCourt$Past", name := "<init>", desc := "()V" } : Jvm.MethodName)) ∈ lw_tbl := List.mem_of_getElem? (i := 271) (by decide +kernel)
theorem tm_272 : (Jvm.Cond.code ({ cls := "MemoryCourt$Past", name := "<init>", desc := "()V" } : Jvm.MethodName) prog_5_method_1_code (1 : Nat) (Option.none : Option Jvm.ClassFile.FieldType)) ∈ lw_tbl := List.mem_of_getElem? (i := 272) (by decide +kernel)
theorem tm_324 : (Jvm.Cond.fieldLink "MemoryCourt" (54 : Nat) "MemoryCourt" "saved" "LMemoryCourt$Court;") ∈ lw_tbl := List.mem_of_getElem? (i := 324) (by decide +kernel)
theorem tm_287 : (Jvm.Cond.fieldLink "MemoryCourt" (61 : Nat) "MemoryCourt$Word" "PAGES" "LMemoryCourt$Word;") ∈ lw_tbl := List.mem_of_getElem? (i := 287) (by decide +kernel)
theorem tm_1227 : (Jvm.Cond.fieldLinkNest "MemoryCourt" (67 : Nat) "MemoryCourt$Word" "usual" "I" "MemoryCourt") ∈ lw_tbl := List.mem_of_getElem? (i := 1227) (by decide +kernel)
theorem tm_289 : (Jvm.Cond.methodLink "MemoryCourt" (71 : Nat) ({ cls := "MemoryCourt$Rules", name := "begin", desc := "(I)V" } : Jvm.MethodName)) ∈ lw_tbl := List.mem_of_getElem? (i := 289) (by decide +kernel)
theorem tm_303 : (Jvm.Cond.methodLink "MemoryCourt" (74 : Nat) ({ cls := "MemoryCourt$Court", name := "begin", desc := "(I)V" } : Jvm.MethodName)) ∈ lw_tbl := List.mem_of_getElem? (i := 303) (by decide +kernel)
theorem sp_251 : (Int16.ofInt (251)).toInt32 = (251 : Int32) := by decide
theorem bp_64 : (Int8.ofInt (64)).toInt32 = (64 : Int32) := by decide
theorem bp_80 : (Int8.ofInt (80)).toInt32 = (80 : Int32) := by decide
theorem sp_1024 : (Int16.ofInt (1024)).toInt32 = (1024 : Int32) := by decide
theorem pf_X1_21 {p : Program} {l : Launch} {e : Env} {R : Room} {s : State} {m : MethodId} {args : Array Value} {below : List Frame} {meth : Method} {c : Code} {H : Heap} {locs : List Loc} {cells slots : Nat} {Q : State → Prop} {cc : ByteArray} {pc nL : Nat} {ls : Array Slot} {rest : List Value} {k : KT} {A : Nat → Prop} {ws ws2 : va_W} {H0 : Heap} {a : Nat} (E : E0 p s m c cc nL RX1 k A) (hW : WD k A H0 ws H locs) (q0 : Nat) {fs : List Value} (he : ws[q0]? = some (a, .inr (2, fs))) {v : Value} (hin : meth.name = "<init>") (hn : narrow (tyX1 0) v = v) (hfit : fits (tyX1 0) v = true) (hl : 0 < fs.length) (hdg : decode cc pc = .ok (.putfield 21, 3)) (hws : ws.set q0 (a, .inr (2, fs.set 0 v)) = ws2) (q : ∀ (H1 : Heap) (locs1 : List Loc), WD k A H0 ws2 H1 locs1 → W p l e R s m args below meth c H1 locs1 cells slots Q (F0 m (pc + 3) ls rest)) : W p l e R s m args below meth c H locs cells slots Q (F0 m pc ls (v :: .ref a :: rest)) := by
  subst hws
  exact va_putF (C := RX1) (T := TX1) (N := 2) (ci := 2) (ty := tyX1 0) E.hx E.hb (Ts := wsX10) (fun w hw => E.w (inX1 w hw) (tbl_laysX1 w hw)) (fun _ h => h) tyX1 tyX1_ok nmX1 E.ho E.hK hW.1 hW.2.1 hW.2.2 q0 he rfl 0 (by decide) (E.w tm_79 rfl) (fun _ h => h) rfl hin rfl (tyX1_ok 0 (by decide)) hn hfit hl hdg (fun H1 locs1 h1 h2 h3 => q H1 locs1 ⟨h1, h2, h3⟩)
theorem pf_X6_7 {p : Program} {l : Launch} {e : Env} {R : Room} {s : State} {m : MethodId} {args : Array Value} {below : List Frame} {meth : Method} {c : Code} {H : Heap} {locs : List Loc} {cells slots : Nat} {Q : State → Prop} {cc : ByteArray} {pc nL : Nat} {ls : Array Slot} {rest : List Value} {k : KT} {A : Nat → Prop} {ws ws2 : va_W} {H0 : Heap} {a : Nat} (E : E0 p s m c cc nL RX6 k A) (hW : WD k A H0 ws H locs) (q0 : Nat) {fs : List Value} (he : ws[q0]? = some (a, .inr (7, fs))) {v : Value} (hin : meth.name = "<init>") (hn : narrow (tyX6 0) v = v) (hfit : fits (tyX6 0) v = true) (hl : 0 < fs.length) (hdg : decode cc pc = .ok (.putfield 7, 3)) (hws : ws.set q0 (a, .inr (7, fs.set 0 v)) = ws2) (q : ∀ (H1 : Heap) (locs1 : List Loc), WD k A H0 ws2 H1 locs1 → W p l e R s m args below meth c H1 locs1 cells slots Q (F0 m (pc + 3) ls rest)) : W p l e R s m args below meth c H locs cells slots Q (F0 m pc ls (v :: .ref a :: rest)) := by
  subst hws
  exact va_putF (C := RX6) (T := TX6) (N := 2) (ci := 7) (ty := tyX6 0) E.hx E.hb (Ts := wsX60) (fun w hw => E.w (inX6 w hw) (tbl_laysX6 w hw)) (fun _ h => h) tyX6 tyX6_ok nmX6 E.ho E.hK hW.1 hW.2.1 hW.2.2 q0 he rfl 0 (by decide) (E.w tm_102 rfl) (fun _ h => h) rfl hin rfl (tyX6_ok 0 (by decide)) hn hfit hl hdg (fun H1 locs1 h1 h2 h3 => q H1 locs1 ⟨h1, h2, h3⟩)
theorem pf_X6_19 {p : Program} {l : Launch} {e : Env} {R : Room} {s : State} {m : MethodId} {args : Array Value} {below : List Frame} {meth : Method} {c : Code} {H : Heap} {locs : List Loc} {cells slots : Nat} {Q : State → Prop} {cc : ByteArray} {pc nL : Nat} {ls : Array Slot} {rest : List Value} {k : KT} {A : Nat → Prop} {ws ws2 : va_W} {H0 : Heap} {a : Nat} (E : E0 p s m c cc nL RX6 k A) (hW : WD k A H0 ws H locs) (q0 : Nat) {fs : List Value} (he : ws[q0]? = some (a, .inr (7, fs))) {v : Value} (hin : meth.name = "<init>") (hn : narrow (tyX6 1) v = v) (hfit : fits (tyX6 1) v = true) (hl : 1 < fs.length) (hdg : decode cc pc = .ok (.putfield 19, 3)) (hws : ws.set q0 (a, .inr (7, fs.set 1 v)) = ws2) (q : ∀ (H1 : Heap) (locs1 : List Loc), WD k A H0 ws2 H1 locs1 → W p l e R s m args below meth c H1 locs1 cells slots Q (F0 m (pc + 3) ls rest)) : W p l e R s m args below meth c H locs cells slots Q (F0 m pc ls (v :: .ref a :: rest)) := by
  subst hws
  exact va_putF (C := RX6) (T := TX6) (N := 2) (ci := 7) (ty := tyX6 1) E.hx E.hb (Ts := wsX60) (fun w hw => E.w (inX6 w hw) (tbl_laysX6 w hw)) (fun _ h => h) tyX6 tyX6_ok nmX6 E.ho E.hK hW.1 hW.2.1 hW.2.2 q0 he rfl 1 (by decide) (E.w tm_103 rfl) (fun _ h => h) rfl hin rfl (tyX6_ok 1 (by decide)) hn hfit hl hdg (fun H1 locs1 h1 h2 h3 => q H1 locs1 ⟨h1, h2, h3⟩)
theorem nw_X5_33 {p : Program} {l : Launch} {e : Env} {R : Room} {s : State} {m : MethodId} {args : Array Value} {below : List Frame} {meth : Method} {c : Code} {H : Heap} {locs : List Loc} {cells slots : Nat} {Q : State → Prop} {cc : ByteArray} {pc nL : Nat} {ls : Array Slot} {rest : List Value} {k : KT} {A : Nat → Prop} {ws : va_W} (E : E0 p s m c cc nL RX5 k A) (hW : WD k A s.heap ws H locs) (hA : ∀ q : Nat, s.heap.size ≤ q → A q) (hc : cells + 1 ≤ R.cells) (hs : slots + 2 ≤ R.slots) (hdg : decode cc pc = .ok (.new 33, 3)) (q : ∀ (x : Nat) (H1 : Heap), WD k A s.heap (ws ++ [(x, .inr (7, [.int 0, .null]))]) H1 locs → W p l e R s m args below meth c H1 locs (cells + 1) (slots + 2) Q (F0 m (pc + 3) ls (.ref x :: rest))) : W p l e R s m args below meth c H locs cells slots Q (F0 m pc ls rest) :=
  va_new (ci := 7) (fs := [.int 0, .null]) (C := RX6) (T := TX6) (N := 2) (Ts := wsX60) E.hx E.hb (fun w hw => E.w (inX6 w hw) (tbl_laysX6 w hw)) (fun _ h => h) tyX6 tyX6_ok E.ho (E.w tm_95 rfl) (E.w tm_96 rfl) (E.w tm_37 rfl) E.hK hW.1 hW.2.1 hW.2.2 hA rfl (fun j hj => match j, hj with | 0, _ => rfl | 1, _ => rfl | j + 2, h => absurd h (by omega)) hc hs hdg (fun x H1 h1 h2 h3 => q x H1 ⟨h1, h2, h3⟩)
theorem pf_X5_38 {p : Program} {l : Launch} {e : Env} {R : Room} {s : State} {m : MethodId} {args : Array Value} {below : List Frame} {meth : Method} {c : Code} {H : Heap} {locs : List Loc} {cells slots : Nat} {Q : State → Prop} {cc : ByteArray} {pc nL : Nat} {ls : Array Slot} {rest : List Value} {k : KT} {A : Nat → Prop} {ws ws2 : va_W} {H0 : Heap} {a : Nat} (E : E0 p s m c cc nL RX5 k A) (hW : WD k A H0 ws H locs) (q0 : Nat) {fs : List Value} (he : ws[q0]? = some (a, .inr (6, fs))) {v : Value} (hin : meth.name = "<init>") (hn : narrow (tyX5 7) v = v) (hfit : fits (tyX5 7) v = true) (hl : 7 < fs.length) (hdg : decode cc pc = .ok (.putfield 38, 3)) (hws : ws.set q0 (a, .inr (6, fs.set 7 v)) = ws2) (q : ∀ (H1 : Heap) (locs1 : List Loc), WD k A H0 ws2 H1 locs1 → W p l e R s m args below meth c H1 locs1 cells slots Q (F0 m (pc + 3) ls rest)) : W p l e R s m args below meth c H locs cells slots Q (F0 m pc ls (v :: .ref a :: rest)) := by
  subst hws
  exact va_putF (C := RX5) (T := TX5) (N := 8) (ci := 6) (ty := tyX5 7) E.hx E.hb (Ts := wsX50) (fun w hw => E.w (inX5 w hw) (tbl_laysX5 w hw)) (fun _ h => h) tyX5 tyX5_ok nmX5 E.ho E.hK hW.1 hW.2.1 hW.2.2 q0 he rfl 7 (by decide) (E.w tm_129 rfl) (fun _ h => h) rfl hin rfl (tyX5_ok 7 (by decide)) hn hfit hl hdg (fun H1 locs1 h1 h2 h3 => q H1 locs1 ⟨h1, h2, h3⟩)
theorem pf_X2_39 {p : Program} {l : Launch} {e : Env} {R : Room} {s : State} {m : MethodId} {args : Array Value} {below : List Frame} {meth : Method} {c : Code} {H : Heap} {locs : List Loc} {cells slots : Nat} {Q : State → Prop} {cc : ByteArray} {pc nL : Nat} {ls : Array Slot} {rest : List Value} {k : KT} {A : Nat → Prop} {ws ws2 : va_W} {H0 : Heap} {a : Nat} (E : E0 p s m c cc nL RX2 k A) (hW : WD k A H0 ws H locs) (q0 : Nat) {fs : List Value} (he : ws[q0]? = some (a, .inr (3, fs))) {v : Value} (hin : meth.name = "<init>") (hn : narrow (tyX2 9) v = v) (hfit : fits (tyX2 9) v = true) (hl : 9 < fs.length) (hdg : decode cc pc = .ok (.putfield 39, 3)) (hws : ws.set q0 (a, .inr (3, fs.set 9 v)) = ws2) (q : ∀ (H1 : Heap) (locs1 : List Loc), WD k A H0 ws2 H1 locs1 → W p l e R s m args below meth c H1 locs1 cells slots Q (F0 m (pc + 3) ls rest)) : W p l e R s m args below meth c H locs cells slots Q (F0 m pc ls (v :: .ref a :: rest)) := by
  subst hws
  exact va_putF (C := RX2) (T := TX2) (N := 16) (ci := 3) (ty := tyX2 9) E.hx E.hb (Ts := wsX20) (fun w hw => E.w (inX2 w hw) (tbl_laysX2 w hw)) (fun _ h => h) tyX2 tyX2_ok nmX2 E.ho E.hK hW.1 hW.2.1 hW.2.2 q0 he rfl 9 (by decide) (E.w tm_176 rfl) (fun _ h => h) rfl hin rfl (tyX2_ok 9 (by decide)) hn hfit hl hdg (fun H1 locs1 h1 h2 h3 => q H1 locs1 ⟨h1, h2, h3⟩)
theorem pf_X2_43 {p : Program} {l : Launch} {e : Env} {R : Room} {s : State} {m : MethodId} {args : Array Value} {below : List Frame} {meth : Method} {c : Code} {H : Heap} {locs : List Loc} {cells slots : Nat} {Q : State → Prop} {cc : ByteArray} {pc nL : Nat} {ls : Array Slot} {rest : List Value} {k : KT} {A : Nat → Prop} {ws ws2 : va_W} {H0 : Heap} {a : Nat} (E : E0 p s m c cc nL RX2 k A) (hW : WD k A H0 ws H locs) (q0 : Nat) {fs : List Value} (he : ws[q0]? = some (a, .inr (3, fs))) {v : Value} (hin : meth.name = "<init>") (hn : narrow (tyX2 10) v = v) (hfit : fits (tyX2 10) v = true) (hl : 10 < fs.length) (hdg : decode cc pc = .ok (.putfield 43, 3)) (hws : ws.set q0 (a, .inr (3, fs.set 10 v)) = ws2) (q : ∀ (H1 : Heap) (locs1 : List Loc), WD k A H0 ws2 H1 locs1 → W p l e R s m args below meth c H1 locs1 cells slots Q (F0 m (pc + 3) ls rest)) : W p l e R s m args below meth c H locs cells slots Q (F0 m pc ls (v :: .ref a :: rest)) := by
  subst hws
  exact va_putF (C := RX2) (T := TX2) (N := 16) (ci := 3) (ty := tyX2 10) E.hx E.hb (Ts := wsX20) (fun w hw => E.w (inX2 w hw) (tbl_laysX2 w hw)) (fun _ h => h) tyX2 tyX2_ok nmX2 E.ho E.hK hW.1 hW.2.1 hW.2.2 q0 he rfl 10 (by decide) (E.w tm_177 rfl) (fun _ h => h) rfl hin rfl (tyX2_ok 10 (by decide)) hn hfit hl hdg (fun H1 locs1 h1 h2 h3 => q H1 locs1 ⟨h1, h2, h3⟩)
theorem nw_X2_47 {p : Program} {l : Launch} {e : Env} {R : Room} {s : State} {m : MethodId} {args : Array Value} {below : List Frame} {meth : Method} {c : Code} {H : Heap} {locs : List Loc} {cells slots : Nat} {Q : State → Prop} {cc : ByteArray} {pc nL : Nat} {ls : Array Slot} {rest : List Value} {k : KT} {A : Nat → Prop} {ws : va_W} (E : E0 p s m c cc nL RX2 k A) (hW : WD k A s.heap ws H locs) (hA : ∀ q : Nat, s.heap.size ≤ q → A q) (hc : cells + 1 ≤ R.cells) (hs : slots + 2 ≤ R.slots) (hdg : decode cc pc = .ok (.new 47, 3)) (q : ∀ (x : Nat) (H1 : Heap), WD k A s.heap (ws ++ [(x, .inr (7, [.int 0, .null]))]) H1 locs → W p l e R s m args below meth c H1 locs (cells + 1) (slots + 2) Q (F0 m (pc + 3) ls (.ref x :: rest))) : W p l e R s m args below meth c H locs cells slots Q (F0 m pc ls rest) :=
  va_new (ci := 7) (fs := [.int 0, .null]) (C := RX6) (T := TX6) (N := 2) (Ts := wsX60) E.hx E.hb (fun w hw => E.w (inX6 w hw) (tbl_laysX6 w hw)) (fun _ h => h) tyX6 tyX6_ok E.ho (E.w tm_153 rfl) (E.w tm_96 rfl) (E.w tm_37 rfl) E.hK hW.1 hW.2.1 hW.2.2 hA rfl (fun j hj => match j, hj with | 0, _ => rfl | 1, _ => rfl | j + 2, h => absurd h (by omega)) hc hs hdg (fun x H1 h1 h2 h3 => q x H1 ⟨h1, h2, h3⟩)
theorem pf_X2_52 {p : Program} {l : Launch} {e : Env} {R : Room} {s : State} {m : MethodId} {args : Array Value} {below : List Frame} {meth : Method} {c : Code} {H : Heap} {locs : List Loc} {cells slots : Nat} {Q : State → Prop} {cc : ByteArray} {pc nL : Nat} {ls : Array Slot} {rest : List Value} {k : KT} {A : Nat → Prop} {ws ws2 : va_W} {H0 : Heap} {a : Nat} (E : E0 p s m c cc nL RX2 k A) (hW : WD k A H0 ws H locs) (q0 : Nat) {fs : List Value} (he : ws[q0]? = some (a, .inr (3, fs))) {v : Value} (hin : meth.name = "<init>") (hn : narrow (tyX2 11) v = v) (hfit : fits (tyX2 11) v = true) (hl : 11 < fs.length) (hdg : decode cc pc = .ok (.putfield 52, 3)) (hws : ws.set q0 (a, .inr (3, fs.set 11 v)) = ws2) (q : ∀ (H1 : Heap) (locs1 : List Loc), WD k A H0 ws2 H1 locs1 → W p l e R s m args below meth c H1 locs1 cells slots Q (F0 m (pc + 3) ls rest)) : W p l e R s m args below meth c H locs cells slots Q (F0 m pc ls (v :: .ref a :: rest)) := by
  subst hws
  exact va_putF (C := RX2) (T := TX2) (N := 16) (ci := 3) (ty := tyX2 11) E.hx E.hb (Ts := wsX20) (fun w hw => E.w (inX2 w hw) (tbl_laysX2 w hw)) (fun _ h => h) tyX2 tyX2_ok nmX2 E.ho E.hK hW.1 hW.2.1 hW.2.2 q0 he rfl 11 (by decide) (E.w tm_178 rfl) (fun _ h => h) rfl hin rfl (tyX2_ok 11 (by decide)) hn hfit hl hdg (fun H1 locs1 h1 h2 h3 => q H1 locs1 ⟨h1, h2, h3⟩)
theorem pf_X2_56 {p : Program} {l : Launch} {e : Env} {R : Room} {s : State} {m : MethodId} {args : Array Value} {below : List Frame} {meth : Method} {c : Code} {H : Heap} {locs : List Loc} {cells slots : Nat} {Q : State → Prop} {cc : ByteArray} {pc nL : Nat} {ls : Array Slot} {rest : List Value} {k : KT} {A : Nat → Prop} {ws ws2 : va_W} {H0 : Heap} {a : Nat} (E : E0 p s m c cc nL RX2 k A) (hW : WD k A H0 ws H locs) (q0 : Nat) {fs : List Value} (he : ws[q0]? = some (a, .inr (3, fs))) {v : Value} (hin : meth.name = "<init>") (hn : narrow (tyX2 12) v = v) (hfit : fits (tyX2 12) v = true) (hl : 12 < fs.length) (hdg : decode cc pc = .ok (.putfield 56, 3)) (hws : ws.set q0 (a, .inr (3, fs.set 12 v)) = ws2) (q : ∀ (H1 : Heap) (locs1 : List Loc), WD k A H0 ws2 H1 locs1 → W p l e R s m args below meth c H1 locs1 cells slots Q (F0 m (pc + 3) ls rest)) : W p l e R s m args below meth c H locs cells slots Q (F0 m pc ls (v :: .ref a :: rest)) := by
  subst hws
  exact va_putF (C := RX2) (T := TX2) (N := 16) (ci := 3) (ty := tyX2 12) E.hx E.hb (Ts := wsX20) (fun w hw => E.w (inX2 w hw) (tbl_laysX2 w hw)) (fun _ h => h) tyX2 tyX2_ok nmX2 E.ho E.hK hW.1 hW.2.1 hW.2.2 q0 he rfl 12 (by decide) (E.w tm_180 rfl) (fun _ h => h) rfl hin rfl (tyX2_ok 12 (by decide)) hn hfit hl hdg (fun H1 locs1 h1 h2 h3 => q H1 locs1 ⟨h1, h2, h3⟩)
theorem pf_X2_59 {p : Program} {l : Launch} {e : Env} {R : Room} {s : State} {m : MethodId} {args : Array Value} {below : List Frame} {meth : Method} {c : Code} {H : Heap} {locs : List Loc} {cells slots : Nat} {Q : State → Prop} {cc : ByteArray} {pc nL : Nat} {ls : Array Slot} {rest : List Value} {k : KT} {A : Nat → Prop} {ws ws2 : va_W} {H0 : Heap} {a : Nat} (E : E0 p s m c cc nL RX2 k A) (hW : WD k A H0 ws H locs) (q0 : Nat) {fs : List Value} (he : ws[q0]? = some (a, .inr (3, fs))) {v : Value} (hin : meth.name = "<init>") (hn : narrow (tyX2 13) v = v) (hfit : fits (tyX2 13) v = true) (hl : 13 < fs.length) (hdg : decode cc pc = .ok (.putfield 59, 3)) (hws : ws.set q0 (a, .inr (3, fs.set 13 v)) = ws2) (q : ∀ (H1 : Heap) (locs1 : List Loc), WD k A H0 ws2 H1 locs1 → W p l e R s m args below meth c H1 locs1 cells slots Q (F0 m (pc + 3) ls rest)) : W p l e R s m args below meth c H locs cells slots Q (F0 m pc ls (v :: .ref a :: rest)) := by
  subst hws
  exact va_putF (C := RX2) (T := TX2) (N := 16) (ci := 3) (ty := tyX2 13) E.hx E.hb (Ts := wsX20) (fun w hw => E.w (inX2 w hw) (tbl_laysX2 w hw)) (fun _ h => h) tyX2 tyX2_ok nmX2 E.ho E.hK hW.1 hW.2.1 hW.2.2 q0 he rfl 13 (by decide) (E.w tm_182 rfl) (fun _ h => h) rfl hin rfl (tyX2_ok 13 (by decide)) hn hfit hl hdg (fun H1 locs1 h1 h2 h3 => q H1 locs1 ⟨h1, h2, h3⟩)
theorem pf_X2_62 {p : Program} {l : Launch} {e : Env} {R : Room} {s : State} {m : MethodId} {args : Array Value} {below : List Frame} {meth : Method} {c : Code} {H : Heap} {locs : List Loc} {cells slots : Nat} {Q : State → Prop} {cc : ByteArray} {pc nL : Nat} {ls : Array Slot} {rest : List Value} {k : KT} {A : Nat → Prop} {ws ws2 : va_W} {H0 : Heap} {a : Nat} (E : E0 p s m c cc nL RX2 k A) (hW : WD k A H0 ws H locs) (q0 : Nat) {fs : List Value} (he : ws[q0]? = some (a, .inr (3, fs))) {v : Value} (hin : meth.name = "<init>") (hn : narrow (tyX2 14) v = v) (hfit : fits (tyX2 14) v = true) (hl : 14 < fs.length) (hdg : decode cc pc = .ok (.putfield 62, 3)) (hws : ws.set q0 (a, .inr (3, fs.set 14 v)) = ws2) (q : ∀ (H1 : Heap) (locs1 : List Loc), WD k A H0 ws2 H1 locs1 → W p l e R s m args below meth c H1 locs1 cells slots Q (F0 m (pc + 3) ls rest)) : W p l e R s m args below meth c H locs cells slots Q (F0 m pc ls (v :: .ref a :: rest)) := by
  subst hws
  exact va_putF (C := RX2) (T := TX2) (N := 16) (ci := 3) (ty := tyX2 14) E.hx E.hb (Ts := wsX20) (fun w hw => E.w (inX2 w hw) (tbl_laysX2 w hw)) (fun _ h => h) tyX2 tyX2_ok nmX2 E.ho E.hK hW.1 hW.2.1 hW.2.2 q0 he rfl 14 (by decide) (E.w tm_184 rfl) (fun _ h => h) rfl hin rfl (tyX2_ok 14 (by decide)) hn hfit hl hdg (fun H1 locs1 h1 h2 h3 => q H1 locs1 ⟨h1, h2, h3⟩)
theorem pf_X2_65 {p : Program} {l : Launch} {e : Env} {R : Room} {s : State} {m : MethodId} {args : Array Value} {below : List Frame} {meth : Method} {c : Code} {H : Heap} {locs : List Loc} {cells slots : Nat} {Q : State → Prop} {cc : ByteArray} {pc nL : Nat} {ls : Array Slot} {rest : List Value} {k : KT} {A : Nat → Prop} {ws ws2 : va_W} {H0 : Heap} {a : Nat} (E : E0 p s m c cc nL RX2 k A) (hW : WD k A H0 ws H locs) (q0 : Nat) {fs : List Value} (he : ws[q0]? = some (a, .inr (3, fs))) {v : Value} (hin : meth.name = "<init>") (hn : narrow (tyX2 15) v = v) (hfit : fits (tyX2 15) v = true) (hl : 15 < fs.length) (hdg : decode cc pc = .ok (.putfield 65, 3)) (hws : ws.set q0 (a, .inr (3, fs.set 15 v)) = ws2) (q : ∀ (H1 : Heap) (locs1 : List Loc), WD k A H0 ws2 H1 locs1 → W p l e R s m args below meth c H1 locs1 cells slots Q (F0 m (pc + 3) ls rest)) : W p l e R s m args below meth c H locs cells slots Q (F0 m pc ls (v :: .ref a :: rest)) := by
  subst hws
  exact va_putF (C := RX2) (T := TX2) (N := 16) (ci := 3) (ty := tyX2 15) E.hx E.hb (Ts := wsX20) (fun w hw => E.w (inX2 w hw) (tbl_laysX2 w hw)) (fun _ h => h) tyX2 tyX2_ok nmX2 E.ho E.hK hW.1 hW.2.1 hW.2.2 q0 he rfl 15 (by decide) (E.w tm_185 rfl) (fun _ h => h) rfl hin rfl (tyX2_ok 15 (by decide)) hn hfit hl hdg (fun H1 locs1 h1 h2 h3 => q H1 locs1 ⟨h1, h2, h3⟩)
theorem pf_X3_11 {p : Program} {l : Launch} {e : Env} {R : Room} {s : State} {m : MethodId} {args : Array Value} {below : List Frame} {meth : Method} {c : Code} {H : Heap} {locs : List Loc} {cells slots : Nat} {Q : State → Prop} {cc : ByteArray} {pc nL : Nat} {ls : Array Slot} {rest : List Value} {k : KT} {A : Nat → Prop} {ws ws2 : va_W} {H0 : Heap} {a : Nat} (E : E0 p s m c cc nL RX3 k A) (hW : WD k A H0 ws H locs) (q0 : Nat) {fs : List Value} (he : ws[q0]? = some (a, .inr (4, fs))) {v : Value} (hin : meth.name = "<init>") (hn : narrow (tyX3 0) v = v) (hfit : fits (tyX3 0) v = true) (hl : 0 < fs.length) (hdg : decode cc pc = .ok (.putfield 11, 3)) (hws : ws.set q0 (a, .inr (4, fs.set 0 v)) = ws2) (q : ∀ (H1 : Heap) (locs1 : List Loc), WD k A H0 ws2 H1 locs1 → W p l e R s m args below meth c H1 locs1 cells slots Q (F0 m (pc + 3) ls rest)) : W p l e R s m args below meth c H locs cells slots Q (F0 m pc ls (v :: .ref a :: rest)) := by
  subst hws
  exact va_putF (C := RX3) (T := TX3) (N := 3) (ci := 4) (ty := tyX3 0) E.hx E.hb (Ts := wsX30) (fun w hw => E.w (inX3 w hw) (tbl_laysX3 w hw)) (fun _ h => h) tyX3 tyX3_ok nmX3 E.ho E.hK hW.1 hW.2.1 hW.2.2 q0 he rfl 0 (by decide) (E.w tm_276 rfl) (fun _ h => h) rfl hin rfl (tyX3_ok 0 (by decide)) hn hfit hl hdg (fun H1 locs1 h1 h2 h3 => q H1 locs1 ⟨h1, h2, h3⟩)
theorem pf_X3_17 {p : Program} {l : Launch} {e : Env} {R : Room} {s : State} {m : MethodId} {args : Array Value} {below : List Frame} {meth : Method} {c : Code} {H : Heap} {locs : List Loc} {cells slots : Nat} {Q : State → Prop} {cc : ByteArray} {pc nL : Nat} {ls : Array Slot} {rest : List Value} {k : KT} {A : Nat → Prop} {ws ws2 : va_W} {H0 : Heap} {a : Nat} (E : E0 p s m c cc nL RX3 k A) (hW : WD k A H0 ws H locs) (q0 : Nat) {fs : List Value} (he : ws[q0]? = some (a, .inr (4, fs))) {v : Value} (hn : narrow (tyX3 1) v = v) (hfit : fits (tyX3 1) v = true) (hl : 1 < fs.length) (hdg : decode cc pc = .ok (.putfield 17, 3)) (hws : ws.set q0 (a, .inr (4, fs.set 1 v)) = ws2) (q : ∀ (H1 : Heap) (locs1 : List Loc), WD k A H0 ws2 H1 locs1 → W p l e R s m args below meth c H1 locs1 cells slots Q (F0 m (pc + 3) ls rest)) : W p l e R s m args below meth c H locs cells slots Q (F0 m pc ls (v :: .ref a :: rest)) := by
  subst hws
  exact va_put (C := RX3) (T := TX3) (N := 3) (ci := 4) (ty := tyX3 1) E.hx E.hb (Ts := wsX30) (fun w hw => E.w (inX3 w hw) (tbl_laysX3 w hw)) (fun _ h => h) tyX3 tyX3_ok nmX3 E.ho E.hK hW.1 hW.2.1 hW.2.2 q0 he rfl 1 (by decide) (E.w tm_277 rfl) (fun _ h => h) rfl (tyX3_ok 1 (by decide)) hn hfit hl hdg (fun H1 locs1 h1 h2 h3 => q H1 locs1 ⟨h1, h2, h3⟩)
theorem nw_X4_9 {p : Program} {l : Launch} {e : Env} {R : Room} {s : State} {m : MethodId} {args : Array Value} {below : List Frame} {meth : Method} {c : Code} {H : Heap} {locs : List Loc} {cells slots : Nat} {Q : State → Prop} {cc : ByteArray} {pc nL : Nat} {ls : Array Slot} {rest : List Value} {k : KT} {A : Nat → Prop} {ws : va_W} (E : E0 p s m c cc nL RX4 k A) (hW : WD k A s.heap ws H locs) (hA : ∀ q : Nat, s.heap.size ≤ q → A q) (hc : cells + 1 ≤ R.cells) (hs : slots + 8 ≤ R.slots) (hdg : decode cc pc = .ok (.new 9, 3)) (q : ∀ (x : Nat) (H1 : Heap), WD k A s.heap (ws ++ [(x, .inr (6, [.int 0, .int 0, .int 0, .int 0, .int 0, .int 0, .int 0, .null]))]) H1 locs → W p l e R s m args below meth c H1 locs (cells + 1) (slots + 8) Q (F0 m (pc + 3) ls (.ref x :: rest))) : W p l e R s m args below meth c H locs cells slots Q (F0 m pc ls rest) :=
  va_new (ci := 6) (fs := [.int 0, .int 0, .int 0, .int 0, .int 0, .int 0, .int 0, .null]) (C := RX5) (T := TX5) (N := 8) (Ts := wsX50) E.hx E.hb (fun w hw => E.w (inX5 w hw) (tbl_laysX5 w hw)) (fun _ h => h) tyX5 tyX5_ok E.ho (E.w tm_226 rfl) (E.w tm_90 rfl) (E.w tm_36 rfl) E.hK hW.1 hW.2.1 hW.2.2 hA rfl (fun j hj => match j, hj with | 0, _ => rfl | 1, _ => rfl | 2, _ => rfl | 3, _ => rfl | 4, _ => rfl | 5, _ => rfl | 6, _ => rfl | 7, _ => rfl | j + 8, h => absurd h (by omega)) hc hs hdg (fun x H1 h1 h2 h3 => q x H1 ⟨h1, h2, h3⟩)
theorem pf_X4_12 {p : Program} {l : Launch} {e : Env} {R : Room} {s : State} {m : MethodId} {args : Array Value} {below : List Frame} {meth : Method} {c : Code} {H : Heap} {locs : List Loc} {cells slots : Nat} {Q : State → Prop} {cc : ByteArray} {pc nL : Nat} {ls : Array Slot} {rest : List Value} {k : KT} {A : Nat → Prop} {ws ws2 : va_W} {H0 : Heap} {a : Nat} (E : E0 p s m c cc nL RX4 k A) (hW : WD k A H0 ws H locs) (q0 : Nat) {fs : List Value} (he : ws[q0]? = some (a, .inr (5, fs))) {v : Value} (hin : meth.name = "<init>") (hn : narrow (tyX4 2) v = v) (hfit : fits (tyX4 2) v = true) (hl : 2 < fs.length) (hdg : decode cc pc = .ok (.putfield 12, 3)) (hws : ws.set q0 (a, .inr (5, fs.set 2 v)) = ws2) (q : ∀ (H1 : Heap) (locs1 : List Loc), WD k A H0 ws2 H1 locs1 → W p l e R s m args below meth c H1 locs1 cells slots Q (F0 m (pc + 3) ls rest)) : W p l e R s m args below meth c H locs cells slots Q (F0 m pc ls (v :: .ref a :: rest)) := by
  subst hws
  exact va_putF (C := RX4) (T := TX4) (N := 12) (ci := 5) (ty := tyX4 2) E.hx E.hb (Ts := wsX40) (fun w hw => E.w (inX4 w hw) (tbl_laysX4 w hw)) (fun _ h => h) tyX4 tyX4_ok nmX4 E.ho E.hK hW.1 hW.2.1 hW.2.2 q0 he rfl 2 (by decide) (E.w tm_232 rfl) (fun _ h => h) rfl hin rfl (tyX4_ok 2 (by decide)) hn hfit hl hdg (fun H1 locs1 h1 h2 h3 => q H1 locs1 ⟨h1, h2, h3⟩)
theorem pf_X4_52 {p : Program} {l : Launch} {e : Env} {R : Room} {s : State} {m : MethodId} {args : Array Value} {below : List Frame} {meth : Method} {c : Code} {H : Heap} {locs : List Loc} {cells slots : Nat} {Q : State → Prop} {cc : ByteArray} {pc nL : Nat} {ls : Array Slot} {rest : List Value} {k : KT} {A : Nat → Prop} {ws ws2 : va_W} {H0 : Heap} {a : Nat} (E : E0 p s m c cc nL RX4 k A) (hW : WD k A H0 ws H locs) (q0 : Nat) {fs : List Value} (he : ws[q0]? = some (a, .inr (5, fs))) {v : Value} (hin : meth.name = "<init>") (hn : narrow (tyX4 0) v = v) (hfit : fits (tyX4 0) v = true) (hl : 0 < fs.length) (hdg : decode cc pc = .ok (.putfield 52, 3)) (hws : ws.set q0 (a, .inr (5, fs.set 0 v)) = ws2) (q : ∀ (H1 : Heap) (locs1 : List Loc), WD k A H0 ws2 H1 locs1 → W p l e R s m args below meth c H1 locs1 cells slots Q (F0 m (pc + 3) ls rest)) : W p l e R s m args below meth c H locs cells slots Q (F0 m pc ls (v :: .ref a :: rest)) := by
  subst hws
  exact va_putF (C := RX4) (T := TX4) (N := 12) (ci := 5) (ty := tyX4 0) E.hx E.hb (Ts := wsX40) (fun w hw => E.w (inX4 w hw) (tbl_laysX4 w hw)) (fun _ h => h) tyX4 tyX4_ok nmX4 E.ho E.hK hW.1 hW.2.1 hW.2.2 q0 he rfl 0 (by decide) (E.w tm_230 rfl) (fun _ h => h) rfl hin rfl (tyX4_ok 0 (by decide)) hn hfit hl hdg (fun H1 locs1 h1 h2 h3 => q H1 locs1 ⟨h1, h2, h3⟩)
theorem pf_X4_56 {p : Program} {l : Launch} {e : Env} {R : Room} {s : State} {m : MethodId} {args : Array Value} {below : List Frame} {meth : Method} {c : Code} {H : Heap} {locs : List Loc} {cells slots : Nat} {Q : State → Prop} {cc : ByteArray} {pc nL : Nat} {ls : Array Slot} {rest : List Value} {k : KT} {A : Nat → Prop} {ws ws2 : va_W} {H0 : Heap} {a : Nat} (E : E0 p s m c cc nL RX4 k A) (hW : WD k A H0 ws H locs) (q0 : Nat) {fs : List Value} (he : ws[q0]? = some (a, .inr (5, fs))) {v : Value} (hin : meth.name = "<init>") (hn : narrow (tyX4 1) v = v) (hfit : fits (tyX4 1) v = true) (hl : 1 < fs.length) (hdg : decode cc pc = .ok (.putfield 56, 3)) (hws : ws.set q0 (a, .inr (5, fs.set 1 v)) = ws2) (q : ∀ (H1 : Heap) (locs1 : List Loc), WD k A H0 ws2 H1 locs1 → W p l e R s m args below meth c H1 locs1 cells slots Q (F0 m (pc + 3) ls rest)) : W p l e R s m args below meth c H locs cells slots Q (F0 m pc ls (v :: .ref a :: rest)) := by
  subst hws
  exact va_putF (C := RX4) (T := TX4) (N := 12) (ci := 5) (ty := tyX4 1) E.hx E.hb (Ts := wsX40) (fun w hw => E.w (inX4 w hw) (tbl_laysX4 w hw)) (fun _ h => h) tyX4 tyX4_ok nmX4 E.ho E.hK hW.1 hW.2.1 hW.2.2 q0 he rfl 1 (by decide) (E.w tm_231 rfl) (fun _ h => h) rfl hin rfl (tyX4_ok 1 (by decide)) hn hfit hl hdg (fun H1 locs1 h1 h2 h3 => q H1 locs1 ⟨h1, h2, h3⟩)
theorem nw_X8_9 {p : Program} {l : Launch} {e : Env} {R : Room} {s : State} {m : MethodId} {args : Array Value} {below : List Frame} {meth : Method} {c : Code} {H : Heap} {locs : List Loc} {cells slots : Nat} {Q : State → Prop} {cc : ByteArray} {pc nL : Nat} {ls : Array Slot} {rest : List Value} {k : KT} {A : Nat → Prop} {ws : va_W} (E : E0 p s m c cc nL RX8 k A) (hW : WD k A s.heap ws H locs) (hA : ∀ q : Nat, s.heap.size ≤ q → A q) (hc : cells + 1 ≤ R.cells) (hs : slots + 2 ≤ R.slots) (hdg : decode cc pc = .ok (.new 9, 3)) (q : ∀ (x : Nat) (H1 : Heap), WD k A s.heap (ws ++ [(x, .inr (2, [.null, .int 0]))]) H1 locs → W p l e R s m args below meth c H1 locs (cells + 1) (slots + 2) Q (F0 m (pc + 3) ls (.ref x :: rest))) : W p l e R s m args below meth c H locs cells slots Q (F0 m pc ls rest) :=
  va_new (ci := 2) (fs := [.null, .int 0]) (C := RX1) (T := TX1) (N := 2) (Ts := wsX10) E.hx E.hb (fun w hw => E.w (inX1 w hw) (tbl_laysX1 w hw)) (fun _ h => h) tyX1 tyX1_ok E.ho (E.w tm_70 rfl) (E.w tm_71 rfl) (E.w tm_34 rfl) E.hK hW.1 hW.2.1 hW.2.2 hA rfl (fun j hj => match j, hj with | 0, _ => rfl | 1, _ => rfl | j + 2, h => absurd h (by omega)) hc hs hdg (fun x H1 h1 h2 h3 => q x H1 ⟨h1, h2, h3⟩)
theorem pf_X8_14 {p : Program} {l : Launch} {e : Env} {R : Room} {s : State} {m : MethodId} {args : Array Value} {below : List Frame} {meth : Method} {c : Code} {H : Heap} {locs : List Loc} {cells slots : Nat} {Q : State → Prop} {cc : ByteArray} {pc nL : Nat} {ls : Array Slot} {rest : List Value} {k : KT} {A : Nat → Prop} {ws ws2 : va_W} {H0 : Heap} {a : Nat} (E : E0 p s m c cc nL RX8 k A) (hW : WD k A H0 ws H locs) (q0 : Nat) {fs : List Value} (he : ws[q0]? = some (a, .inr (8, fs))) {v : Value} (hin : meth.name = "<init>") (hn : narrow (tyX8 0) v = v) (hfit : fits (tyX8 0) v = true) (hl : 0 < fs.length) (hdg : decode cc pc = .ok (.putfield 14, 3)) (hws : ws.set q0 (a, .inr (8, fs.set 0 v)) = ws2) (q : ∀ (H1 : Heap) (locs1 : List Loc), WD k A H0 ws2 H1 locs1 → W p l e R s m args below meth c H1 locs1 cells slots Q (F0 m (pc + 3) ls rest)) : W p l e R s m args below meth c H locs cells slots Q (F0 m pc ls (v :: .ref a :: rest)) := by
  subst hws
  exact va_putF (C := RX8) (T := TX8) (N := 9) (ci := 8) (ty := tyX8 0) E.hx E.hb (Ts := wsX80) (fun w hw => E.w (inX8 w hw) (tbl_laysX8 w hw)) (fun _ h => h) tyX8 tyX8_ok nmX8 E.ho E.hK hW.1 hW.2.1 hW.2.2 q0 he rfl 0 (by decide) (E.w tm_317 rfl) (fun _ h => h) rfl hin rfl (tyX8_ok 0 (by decide)) hn hfit hl hdg (fun H1 locs1 h1 h2 h3 => q H1 locs1 ⟨h1, h2, h3⟩)
theorem pf_X8_18 {p : Program} {l : Launch} {e : Env} {R : Room} {s : State} {m : MethodId} {args : Array Value} {below : List Frame} {meth : Method} {c : Code} {H : Heap} {locs : List Loc} {cells slots : Nat} {Q : State → Prop} {cc : ByteArray} {pc nL : Nat} {ls : Array Slot} {rest : List Value} {k : KT} {A : Nat → Prop} {ws ws2 : va_W} {H0 : Heap} {a : Nat} (E : E0 p s m c cc nL RX8 k A) (hW : WD k A H0 ws H locs) (q0 : Nat) {fs : List Value} (he : ws[q0]? = some (a, .inr (8, fs))) {v : Value} (hin : meth.name = "<init>") (hn : narrow (tyX8 1) v = v) (hfit : fits (tyX8 1) v = true) (hl : 1 < fs.length) (hdg : decode cc pc = .ok (.putfield 18, 3)) (hws : ws.set q0 (a, .inr (8, fs.set 1 v)) = ws2) (q : ∀ (H1 : Heap) (locs1 : List Loc), WD k A H0 ws2 H1 locs1 → W p l e R s m args below meth c H1 locs1 cells slots Q (F0 m (pc + 3) ls rest)) : W p l e R s m args below meth c H locs cells slots Q (F0 m pc ls (v :: .ref a :: rest)) := by
  subst hws
  exact va_putF (C := RX8) (T := TX8) (N := 9) (ci := 8) (ty := tyX8 1) E.hx E.hb (Ts := wsX80) (fun w hw => E.w (inX8 w hw) (tbl_laysX8 w hw)) (fun _ h => h) tyX8 tyX8_ok nmX8 E.ho E.hK hW.1 hW.2.1 hW.2.2 q0 he rfl 1 (by decide) (E.w tm_318 rfl) (fun _ h => h) rfl hin rfl (tyX8_ok 1 (by decide)) hn hfit hl hdg (fun H1 locs1 h1 h2 h3 => q H1 locs1 ⟨h1, h2, h3⟩)
theorem nw_X8_21 {p : Program} {l : Launch} {e : Env} {R : Room} {s : State} {m : MethodId} {args : Array Value} {below : List Frame} {meth : Method} {c : Code} {H : Heap} {locs : List Loc} {cells slots : Nat} {Q : State → Prop} {cc : ByteArray} {pc nL : Nat} {ls : Array Slot} {rest : List Value} {k : KT} {A : Nat → Prop} {ws : va_W} (E : E0 p s m c cc nL RX8 k A) (hW : WD k A s.heap ws H locs) (hA : ∀ q : Nat, s.heap.size ≤ q → A q) (hc : cells + 1 ≤ R.cells) (hs : slots + 8 ≤ R.slots) (hdg : decode cc pc = .ok (.new 21, 3)) (q : ∀ (x : Nat) (H1 : Heap), WD k A s.heap (ws ++ [(x, .inr (6, [.int 0, .int 0, .int 0, .int 0, .int 0, .int 0, .int 0, .null]))]) H1 locs → W p l e R s m args below meth c H1 locs (cells + 1) (slots + 8) Q (F0 m (pc + 3) ls (.ref x :: rest))) : W p l e R s m args below meth c H locs cells slots Q (F0 m pc ls rest) :=
  va_new (ci := 6) (fs := [.int 0, .int 0, .int 0, .int 0, .int 0, .int 0, .int 0, .null]) (C := RX5) (T := TX5) (N := 8) (Ts := wsX50) E.hx E.hb (fun w hw => E.w (inX5 w hw) (tbl_laysX5 w hw)) (fun _ h => h) tyX5 tyX5_ok E.ho (E.w tm_89 rfl) (E.w tm_90 rfl) (E.w tm_36 rfl) E.hK hW.1 hW.2.1 hW.2.2 hA rfl (fun j hj => match j, hj with | 0, _ => rfl | 1, _ => rfl | 2, _ => rfl | 3, _ => rfl | 4, _ => rfl | 5, _ => rfl | 6, _ => rfl | 7, _ => rfl | j + 8, h => absurd h (by omega)) hc hs hdg (fun x H1 h1 h2 h3 => q x H1 ⟨h1, h2, h3⟩)
theorem pf_X8_24 {p : Program} {l : Launch} {e : Env} {R : Room} {s : State} {m : MethodId} {args : Array Value} {below : List Frame} {meth : Method} {c : Code} {H : Heap} {locs : List Loc} {cells slots : Nat} {Q : State → Prop} {cc : ByteArray} {pc nL : Nat} {ls : Array Slot} {rest : List Value} {k : KT} {A : Nat → Prop} {ws ws2 : va_W} {H0 : Heap} {a : Nat} (E : E0 p s m c cc nL RX8 k A) (hW : WD k A H0 ws H locs) (q0 : Nat) {fs : List Value} (he : ws[q0]? = some (a, .inr (8, fs))) {v : Value} (hin : meth.name = "<init>") (hn : narrow (tyX8 2) v = v) (hfit : fits (tyX8 2) v = true) (hl : 2 < fs.length) (hdg : decode cc pc = .ok (.putfield 24, 3)) (hws : ws.set q0 (a, .inr (8, fs.set 2 v)) = ws2) (q : ∀ (H1 : Heap) (locs1 : List Loc), WD k A H0 ws2 H1 locs1 → W p l e R s m args below meth c H1 locs1 cells slots Q (F0 m (pc + 3) ls rest)) : W p l e R s m args below meth c H locs cells slots Q (F0 m pc ls (v :: .ref a :: rest)) := by
  subst hws
  exact va_putF (C := RX8) (T := TX8) (N := 9) (ci := 8) (ty := tyX8 2) E.hx E.hb (Ts := wsX80) (fun w hw => E.w (inX8 w hw) (tbl_laysX8 w hw)) (fun _ h => h) tyX8 tyX8_ok nmX8 E.ho E.hK hW.1 hW.2.1 hW.2.2 q0 he rfl 2 (by decide) (E.w tm_319 rfl) (fun _ h => h) rfl hin rfl (tyX8_ok 2 (by decide)) hn hfit hl hdg (fun H1 locs1 h1 h2 h3 => q H1 locs1 ⟨h1, h2, h3⟩)
theorem nw_X8_28 {p : Program} {l : Launch} {e : Env} {R : Room} {s : State} {m : MethodId} {args : Array Value} {below : List Frame} {meth : Method} {c : Code} {H : Heap} {locs : List Loc} {cells slots : Nat} {Q : State → Prop} {cc : ByteArray} {pc nL : Nat} {ls : Array Slot} {rest : List Value} {k : KT} {A : Nat → Prop} {ws : va_W} (E : E0 p s m c cc nL RX8 k A) (hW : WD k A s.heap ws H locs) (hA : ∀ q : Nat, s.heap.size ≤ q → A q) (hc : cells + 1 ≤ R.cells) (hs : slots + 16 ≤ R.slots) (hdg : decode cc pc = .ok (.new 28, 3)) (q : ∀ (x : Nat) (H1 : Heap), WD k A s.heap (ws ++ [(x, .inr (3, [.int 0, .int 0, .int 0, .int 0, .int 0, .int 0, .int 0, .int 0, .int 0, .null, .null, .null, .null, .null, .null, .null]))]) H1 locs → W p l e R s m args below meth c H1 locs (cells + 1) (slots + 16) Q (F0 m (pc + 3) ls (.ref x :: rest))) : W p l e R s m args below meth c H locs cells slots Q (F0 m pc ls rest) :=
  va_new (ci := 3) (fs := [.int 0, .int 0, .int 0, .int 0, .int 0, .int 0, .int 0, .int 0, .int 0, .null, .null, .null, .null, .null, .null, .null]) (C := RX2) (T := TX2) (N := 16) (Ts := wsX20) E.hx E.hb (fun w hw => E.w (inX2 w hw) (tbl_laysX2 w hw)) (fun _ h => h) tyX2 tyX2_ok E.ho (E.w tm_147 rfl) (E.w tm_148 rfl) (E.w tm_38 rfl) E.hK hW.1 hW.2.1 hW.2.2 hA rfl (fun j hj => match j, hj with | 0, _ => rfl | 1, _ => rfl | 2, _ => rfl | 3, _ => rfl | 4, _ => rfl | 5, _ => rfl | 6, _ => rfl | 7, _ => rfl | 8, _ => rfl | 9, _ => rfl | 10, _ => rfl | 11, _ => rfl | 12, _ => rfl | 13, _ => rfl | 14, _ => rfl | 15, _ => rfl | j + 16, h => absurd h (by omega)) hc hs hdg (fun x H1 h1 h2 h3 => q x H1 ⟨h1, h2, h3⟩)
theorem pf_X8_31 {p : Program} {l : Launch} {e : Env} {R : Room} {s : State} {m : MethodId} {args : Array Value} {below : List Frame} {meth : Method} {c : Code} {H : Heap} {locs : List Loc} {cells slots : Nat} {Q : State → Prop} {cc : ByteArray} {pc nL : Nat} {ls : Array Slot} {rest : List Value} {k : KT} {A : Nat → Prop} {ws ws2 : va_W} {H0 : Heap} {a : Nat} (E : E0 p s m c cc nL RX8 k A) (hW : WD k A H0 ws H locs) (q0 : Nat) {fs : List Value} (he : ws[q0]? = some (a, .inr (8, fs))) {v : Value} (hin : meth.name = "<init>") (hn : narrow (tyX8 3) v = v) (hfit : fits (tyX8 3) v = true) (hl : 3 < fs.length) (hdg : decode cc pc = .ok (.putfield 31, 3)) (hws : ws.set q0 (a, .inr (8, fs.set 3 v)) = ws2) (q : ∀ (H1 : Heap) (locs1 : List Loc), WD k A H0 ws2 H1 locs1 → W p l e R s m args below meth c H1 locs1 cells slots Q (F0 m (pc + 3) ls rest)) : W p l e R s m args below meth c H locs cells slots Q (F0 m pc ls (v :: .ref a :: rest)) := by
  subst hws
  exact va_putF (C := RX8) (T := TX8) (N := 9) (ci := 8) (ty := tyX8 3) E.hx E.hb (Ts := wsX80) (fun w hw => E.w (inX8 w hw) (tbl_laysX8 w hw)) (fun _ h => h) tyX8 tyX8_ok nmX8 E.ho E.hK hW.1 hW.2.1 hW.2.2 q0 he rfl 3 (by decide) (E.w tm_320 rfl) (fun _ h => h) rfl hin rfl (tyX8_ok 3 (by decide)) hn hfit hl hdg (fun H1 locs1 h1 h2 h3 => q H1 locs1 ⟨h1, h2, h3⟩)
theorem pf_X8_35 {p : Program} {l : Launch} {e : Env} {R : Room} {s : State} {m : MethodId} {args : Array Value} {below : List Frame} {meth : Method} {c : Code} {H : Heap} {locs : List Loc} {cells slots : Nat} {Q : State → Prop} {cc : ByteArray} {pc nL : Nat} {ls : Array Slot} {rest : List Value} {k : KT} {A : Nat → Prop} {ws ws2 : va_W} {H0 : Heap} {a : Nat} (E : E0 p s m c cc nL RX8 k A) (hW : WD k A H0 ws H locs) (q0 : Nat) {fs : List Value} (he : ws[q0]? = some (a, .inr (8, fs))) {v : Value} (hin : meth.name = "<init>") (hn : narrow (tyX8 4) v = v) (hfit : fits (tyX8 4) v = true) (hl : 4 < fs.length) (hdg : decode cc pc = .ok (.putfield 35, 3)) (hws : ws.set q0 (a, .inr (8, fs.set 4 v)) = ws2) (q : ∀ (H1 : Heap) (locs1 : List Loc), WD k A H0 ws2 H1 locs1 → W p l e R s m args below meth c H1 locs1 cells slots Q (F0 m (pc + 3) ls rest)) : W p l e R s m args below meth c H locs cells slots Q (F0 m pc ls (v :: .ref a :: rest)) := by
  subst hws
  exact va_putF (C := RX8) (T := TX8) (N := 9) (ci := 8) (ty := tyX8 4) E.hx E.hb (Ts := wsX80) (fun w hw => E.w (inX8 w hw) (tbl_laysX8 w hw)) (fun _ h => h) tyX8 tyX8_ok nmX8 E.ho E.hK hW.1 hW.2.1 hW.2.2 q0 he rfl 4 (by decide) (E.w tm_321 rfl) (fun _ h => h) rfl hin rfl (tyX8_ok 4 (by decide)) hn hfit hl hdg (fun H1 locs1 h1 h2 h3 => q H1 locs1 ⟨h1, h2, h3⟩)
theorem nw_X8_38 {p : Program} {l : Launch} {e : Env} {R : Room} {s : State} {m : MethodId} {args : Array Value} {below : List Frame} {meth : Method} {c : Code} {H : Heap} {locs : List Loc} {cells slots : Nat} {Q : State → Prop} {cc : ByteArray} {pc nL : Nat} {ls : Array Slot} {rest : List Value} {k : KT} {A : Nat → Prop} {ws : va_W} (E : E0 p s m c cc nL RX8 k A) (hW : WD k A s.heap ws H locs) (hA : ∀ q : Nat, s.heap.size ≤ q → A q) (hc : cells + 1 ≤ R.cells) (hs : slots + 12 ≤ R.slots) (hdg : decode cc pc = .ok (.new 38, 3)) (q : ∀ (x : Nat) (H1 : Heap), WD k A s.heap (ws ++ [(x, .inr (5, [.null, .null, .null, .int 0, .int 0, .int 0, .int 0, .int 0, .null, .int 0, .int 0, .int 0]))]) H1 locs → W p l e R s m args below meth c H1 locs (cells + 1) (slots + 12) Q (F0 m (pc + 3) ls (.ref x :: rest))) : W p l e R s m args below meth c H locs cells slots Q (F0 m pc ls rest) :=
  va_new (ci := 5) (fs := [.null, .null, .null, .int 0, .int 0, .int 0, .int 0, .int 0, .null, .int 0, .int 0, .int 0]) (C := RX4) (T := TX4) (N := 12) (Ts := wsX40) E.hx E.hb (fun w hw => E.w (inX4 w hw) (tbl_laysX4 w hw)) (fun _ h => h) tyX4 tyX4_ok E.ho (E.w tm_220 rfl) (E.w tm_221 rfl) (E.w tm_39 rfl) E.hK hW.1 hW.2.1 hW.2.2 hA rfl (fun j hj => match j, hj with | 0, _ => rfl | 1, _ => rfl | 2, _ => rfl | 3, _ => rfl | 4, _ => rfl | 5, _ => rfl | 6, _ => rfl | 7, _ => rfl | 8, _ => rfl | 9, _ => rfl | 10, _ => rfl | 11, _ => rfl | j + 12, h => absurd h (by omega)) hc hs hdg (fun x H1 h1 h2 h3 => q x H1 ⟨h1, h2, h3⟩)
theorem pf_X8_43 {p : Program} {l : Launch} {e : Env} {R : Room} {s : State} {m : MethodId} {args : Array Value} {below : List Frame} {meth : Method} {c : Code} {H : Heap} {locs : List Loc} {cells slots : Nat} {Q : State → Prop} {cc : ByteArray} {pc nL : Nat} {ls : Array Slot} {rest : List Value} {k : KT} {A : Nat → Prop} {ws ws2 : va_W} {H0 : Heap} {a : Nat} (E : E0 p s m c cc nL RX8 k A) (hW : WD k A H0 ws H locs) (q0 : Nat) {fs : List Value} (he : ws[q0]? = some (a, .inr (8, fs))) {v : Value} (hin : meth.name = "<init>") (hn : narrow (tyX8 5) v = v) (hfit : fits (tyX8 5) v = true) (hl : 5 < fs.length) (hdg : decode cc pc = .ok (.putfield 43, 3)) (hws : ws.set q0 (a, .inr (8, fs.set 5 v)) = ws2) (q : ∀ (H1 : Heap) (locs1 : List Loc), WD k A H0 ws2 H1 locs1 → W p l e R s m args below meth c H1 locs1 cells slots Q (F0 m (pc + 3) ls rest)) : W p l e R s m args below meth c H locs cells slots Q (F0 m pc ls (v :: .ref a :: rest)) := by
  subst hws
  exact va_putF (C := RX8) (T := TX8) (N := 9) (ci := 8) (ty := tyX8 5) E.hx E.hb (Ts := wsX80) (fun w hw => E.w (inX8 w hw) (tbl_laysX8 w hw)) (fun _ h => h) tyX8 tyX8_ok nmX8 E.ho E.hK hW.1 hW.2.1 hW.2.2 q0 he rfl 5 (by decide) (E.w tm_322 rfl) (fun _ h => h) rfl hin rfl (tyX8_ok 5 (by decide)) hn hfit hl hdg (fun H1 locs1 h1 h2 h3 => q H1 locs1 ⟨h1, h2, h3⟩)
theorem nw_X8_47 {p : Program} {l : Launch} {e : Env} {R : Room} {s : State} {m : MethodId} {args : Array Value} {below : List Frame} {meth : Method} {c : Code} {H : Heap} {locs : List Loc} {cells slots : Nat} {Q : State → Prop} {cc : ByteArray} {pc nL : Nat} {ls : Array Slot} {rest : List Value} {k : KT} {A : Nat → Prop} {ws : va_W} (E : E0 p s m c cc nL RX8 k A) (hW : WD k A s.heap ws H locs) (hA : ∀ q : Nat, s.heap.size ≤ q → A q) (hc : cells + 1 ≤ R.cells) (hs : slots + 3 ≤ R.slots) (hdg : decode cc pc = .ok (.new 47, 3)) (q : ∀ (x : Nat) (H1 : Heap), WD k A s.heap (ws ++ [(x, .inr (4, [.null, .int 0, .int 0]))]) H1 locs → W p l e R s m args below meth c H1 locs (cells + 1) (slots + 3) Q (F0 m (pc + 3) ls (.ref x :: rest))) : W p l e R s m args below meth c H locs cells slots Q (F0 m pc ls rest) :=
  va_new (ci := 4) (fs := [.null, .int 0, .int 0]) (C := RX3) (T := TX3) (N := 3) (Ts := wsX30) E.hx E.hb (fun w hw => E.w (inX3 w hw) (tbl_laysX3 w hw)) (fun _ h => h) tyX3 tyX3_ok E.ho (E.w tm_268 rfl) (E.w tm_269 rfl) (E.w tm_42 rfl) E.hK hW.1 hW.2.1 hW.2.2 hA rfl (fun j hj => match j, hj with | 0, _ => rfl | 1, _ => rfl | 2, _ => rfl | j + 3, h => absurd h (by omega)) hc hs hdg (fun x H1 h1 h2 h3 => q x H1 ⟨h1, h2, h3⟩)
theorem pf_X8_50 {p : Program} {l : Launch} {e : Env} {R : Room} {s : State} {m : MethodId} {args : Array Value} {below : List Frame} {meth : Method} {c : Code} {H : Heap} {locs : List Loc} {cells slots : Nat} {Q : State → Prop} {cc : ByteArray} {pc nL : Nat} {ls : Array Slot} {rest : List Value} {k : KT} {A : Nat → Prop} {ws ws2 : va_W} {H0 : Heap} {a : Nat} (E : E0 p s m c cc nL RX8 k A) (hW : WD k A H0 ws H locs) (q0 : Nat) {fs : List Value} (he : ws[q0]? = some (a, .inr (8, fs))) {v : Value} (hin : meth.name = "<init>") (hn : narrow (tyX8 6) v = v) (hfit : fits (tyX8 6) v = true) (hl : 6 < fs.length) (hdg : decode cc pc = .ok (.putfield 50, 3)) (hws : ws.set q0 (a, .inr (8, fs.set 6 v)) = ws2) (q : ∀ (H1 : Heap) (locs1 : List Loc), WD k A H0 ws2 H1 locs1 → W p l e R s m args below meth c H1 locs1 cells slots Q (F0 m (pc + 3) ls rest)) : W p l e R s m args below meth c H locs cells slots Q (F0 m pc ls (v :: .ref a :: rest)) := by
  subst hws
  exact va_putF (C := RX8) (T := TX8) (N := 9) (ci := 8) (ty := tyX8 6) E.hx E.hb (Ts := wsX80) (fun w hw => E.w (inX8 w hw) (tbl_laysX8 w hw)) (fun _ h => h) tyX8 tyX8_ok nmX8 E.ho E.hK hW.1 hW.2.1 hW.2.2 q0 he rfl 6 (by decide) (E.w tm_323 rfl) (fun _ h => h) rfl hin rfl (tyX8_ok 6 (by decide)) hn hfit hl hdg (fun H1 locs1 h1 h2 h3 => q H1 locs1 ⟨h1, h2, h3⟩)
theorem pf_X8_54 {p : Program} {l : Launch} {e : Env} {R : Room} {s : State} {m : MethodId} {args : Array Value} {below : List Frame} {meth : Method} {c : Code} {H : Heap} {locs : List Loc} {cells slots : Nat} {Q : State → Prop} {cc : ByteArray} {pc nL : Nat} {ls : Array Slot} {rest : List Value} {k : KT} {A : Nat → Prop} {ws ws2 : va_W} {H0 : Heap} {a : Nat} (E : E0 p s m c cc nL RX8 k A) (hW : WD k A H0 ws H locs) (q0 : Nat) {fs : List Value} (he : ws[q0]? = some (a, .inr (8, fs))) {v : Value} (hn : narrow (tyX8 7) v = v) (hfit : fits (tyX8 7) v = true) (hl : 7 < fs.length) (hdg : decode cc pc = .ok (.putfield 54, 3)) (hws : ws.set q0 (a, .inr (8, fs.set 7 v)) = ws2) (q : ∀ (H1 : Heap) (locs1 : List Loc), WD k A H0 ws2 H1 locs1 → W p l e R s m args below meth c H1 locs1 cells slots Q (F0 m (pc + 3) ls rest)) : W p l e R s m args below meth c H locs cells slots Q (F0 m pc ls (v :: .ref a :: rest)) := by
  subst hws
  exact va_put (C := RX8) (T := TX8) (N := 9) (ci := 8) (ty := tyX8 7) E.hx E.hb (Ts := wsX80) (fun w hw => E.w (inX8 w hw) (tbl_laysX8 w hw)) (fun _ h => h) tyX8 tyX8_ok nmX8 E.ho E.hK hW.1 hW.2.1 hW.2.2 q0 he rfl 7 (by decide) (E.w tm_324 rfl) (fun _ h => h) rfl (tyX8_ok 7 (by decide)) hn hfit hl hdg (fun H1 locs1 h1 h2 h3 => q H1 locs1 ⟨h1, h2, h3⟩)
theorem il_X5_35 : IL RX5 35 yX6_init cX6_init 3 2 := ⟨⟨tm_97, tm_98, tm_37, tm_99⟩, by decide +kernel⟩
theorem il_X2_49 : IL RX2 49 yX6_init cX6_init 3 2 := ⟨⟨tm_154, tm_98, tm_37, tm_99⟩, by decide +kernel⟩
theorem il_X4_11 : ILN RX4 "MemoryCourt" 11 yX5_init cX5_init 1 0 := ⟨⟨tm_227, tm_92, tm_36, tm_93⟩, by decide +kernel⟩
theorem il_X8_11 : IL RX8 11 yX1_init cX1_init 2 1 := ⟨⟨tm_72, tm_73, tm_34, tm_74⟩, by decide +kernel⟩
theorem il_X8_23 : ILN RX8 "MemoryCourt" 23 yX5_init cX5_init 1 0 := ⟨⟨tm_91, tm_92, tm_36, tm_93⟩, by decide +kernel⟩
theorem il_X8_30 : ILN RX8 "MemoryCourt" 30 yX2_init cX2_init 1 0 := ⟨⟨tm_149, tm_150, tm_38, tm_151⟩, by decide +kernel⟩
theorem il_X8_40 : IL RX8 40 yX4_init cX4_init 3 2 := ⟨⟨tm_222, tm_223, tm_39, tm_224⟩, by decide +kernel⟩
theorem il_X8_49 : ILN RX8 "MemoryCourt" 49 yX3_init cX3_init 1 0 := ⟨⟨tm_270, tm_271, tm_42, tm_272⟩, by decide +kernel⟩
theorem vl_X8_71 : VL RX8 71 RX5 yX5_begin cX5_begin 2 none 1 := ⟨⟨tm_289, tm_290, tm_291, tm_36, tm_292⟩, by decide +kernel⟩
theorem vl_X8_74 : VL RX8 74 RX2 yX2_begin cX2_begin 3 none 1 := ⟨⟨tm_303, tm_304, tm_305, tm_38, tm_306⟩, by decide +kernel⟩
theorem dX1_init_0 : decode cX1_init 0 = .ok (.aload_n 0, 1) := by decide +kernel
theorem dX1_init_1 : decode cX1_init 1 = .ok (.invokespecial 3, 3) := by decide +kernel
theorem dX1_init_4 : decode cX1_init 4 = .ok (.aload_n 0, 1) := by decide +kernel
theorem dX1_init_5 : decode cX1_init 5 = .ok (.iconst 0, 1) := by decide +kernel
theorem dX1_init_6 : decode cX1_init 6 = .ok (.putfield 9, 3) := by decide +kernel
theorem dX1_init_9 : decode cX1_init 9 = .ok (.aload_n 0, 1) := by decide +kernel
theorem dX1_init_10 : decode cX1_init 10 = .ok (.iconst 0, 1) := by decide +kernel
theorem dX1_init_11 : decode cX1_init 11 = .ok (.iload_n 1, 1) := by decide +kernel
theorem dX1_init_12 : decode cX1_init 12 = .ok (.invokestatic 15, 3) := by decide +kernel
theorem dX1_init_15 : decode cX1_init 15 = .ok (.newarray .byte, 2) := by decide +kernel
theorem dX1_init_17 : decode cX1_init 17 = .ok (.putfield 21, 3) := by decide +kernel
theorem dX1_init_20 : decode cX1_init 20 = .ok (.return_, 1) := by decide +kernel
theorem dX6_init_0 : decode cX6_init 0 = .ok (.aload_n 0, 1) := by decide +kernel
theorem dX6_init_1 : decode cX6_init 1 = .ok (.invokespecial 1, 3) := by decide +kernel
theorem dX6_init_4 : decode cX6_init 4 = .ok (.aload_n 0, 1) := by decide +kernel
theorem dX6_init_5 : decode cX6_init 5 = .ok (.iload_n 2, 1) := by decide +kernel
theorem dX6_init_6 : decode cX6_init 6 = .ok (.putfield 7, 3) := by decide +kernel
theorem dX6_init_9 : decode cX6_init 9 = .ok (.aload_n 0, 1) := by decide +kernel
theorem dX6_init_10 : decode cX6_init 10 = .ok (.iconst 0, 1) := by decide +kernel
theorem dX6_init_11 : decode cX6_init 11 = .ok (.iload_n 1, 1) := by decide +kernel
theorem dX6_init_12 : decode cX6_init 12 = .ok (.iload_n 2, 1) := by decide +kernel
theorem dX6_init_13 : decode cX6_init 13 = .ok (.imul, 1) := by decide +kernel
theorem dX6_init_14 : decode cX6_init 14 = .ok (.invokestatic 13, 3) := by decide +kernel
theorem dX6_init_17 : decode cX6_init 17 = .ok (.newarray .int, 2) := by decide +kernel
theorem dX6_init_19 : decode cX6_init 19 = .ok (.putfield 19, 3) := by decide +kernel
theorem dX6_init_22 : decode cX6_init 22 = .ok (.return_, 1) := by decide +kernel
theorem dX5_init_0 : decode cX5_init 0 = .ok (.aload_n 0, 1) := by decide +kernel
theorem dX5_init_1 : decode cX5_init 1 = .ok (.invokespecial 3, 3) := by decide +kernel
theorem dX5_init_4 : decode cX5_init 4 = .ok (.aload_n 0, 1) := by decide +kernel
theorem dX5_init_5 : decode cX5_init 5 = .ok (.iconst 0, 1) := by decide +kernel
theorem dX5_init_6 : decode cX5_init 6 = .ok (.putfield 9, 3) := by decide +kernel
theorem dX5_init_9 : decode cX5_init 9 = .ok (.aload_n 0, 1) := by decide +kernel
theorem dX5_init_10 : decode cX5_init 10 = .ok (.iconst 0, 1) := by decide +kernel
theorem dX5_init_11 : decode cX5_init 11 = .ok (.putfield 15, 3) := by decide +kernel
theorem dX5_init_14 : decode cX5_init 14 = .ok (.aload_n 0, 1) := by decide +kernel
theorem dX5_init_15 : decode cX5_init 15 = .ok (.iconst 0, 1) := by decide +kernel
theorem dX5_init_16 : decode cX5_init 16 = .ok (.putfield 18, 3) := by decide +kernel
theorem dX5_init_19 : decode cX5_init 19 = .ok (.aload_n 0, 1) := by decide +kernel
theorem dX5_init_20 : decode cX5_init 20 = .ok (.iconst 0, 1) := by decide +kernel
theorem dX5_init_21 : decode cX5_init 21 = .ok (.putfield 21, 3) := by decide +kernel
theorem dX5_init_24 : decode cX5_init 24 = .ok (.aload_n 0, 1) := by decide +kernel
theorem dX5_init_25 : decode cX5_init 25 = .ok (.iconst 0, 1) := by decide +kernel
theorem dX5_init_26 : decode cX5_init 26 = .ok (.putfield 24, 3) := by decide +kernel
theorem dX5_init_29 : decode cX5_init 29 = .ok (.aload_n 0, 1) := by decide +kernel
theorem dX5_init_30 : decode cX5_init 30 = .ok (.iconst 0, 1) := by decide +kernel
theorem dX5_init_31 : decode cX5_init 31 = .ok (.putfield 27, 3) := by decide +kernel
theorem dX5_init_34 : decode cX5_init 34 = .ok (.aload_n 0, 1) := by decide +kernel
theorem dX5_init_35 : decode cX5_init 35 = .ok (.iconst 0, 1) := by decide +kernel
theorem dX5_init_36 : decode cX5_init 36 = .ok (.putfield 30, 3) := by decide +kernel
theorem dX5_init_39 : decode cX5_init 39 = .ok (.aload_n 0, 1) := by decide +kernel
theorem dX5_init_40 : decode cX5_init 40 = .ok (.new 33, 3) := by decide +kernel
theorem dX5_init_43 : decode cX5_init 43 = .ok (.dup, 1) := by decide +kernel
theorem dX5_init_44 : decode cX5_init 44 = .ok (.bipush 8, 2) := by decide +kernel
theorem dX5_init_46 : decode cX5_init 46 = .ok (.bipush 7, 2) := by decide +kernel
theorem dX5_init_48 : decode cX5_init 48 = .ok (.invokespecial 35, 3) := by decide +kernel
theorem dX5_init_51 : decode cX5_init 51 = .ok (.putfield 38, 3) := by decide +kernel
theorem dX5_init_54 : decode cX5_init 54 = .ok (.return_, 1) := by decide +kernel
theorem dX2_init_0 : decode cX2_init 0 = .ok (.aload_n 0, 1) := by decide +kernel
theorem dX2_init_1 : decode cX2_init 1 = .ok (.invokespecial 3, 3) := by decide +kernel
theorem dX2_init_4 : decode cX2_init 4 = .ok (.aload_n 0, 1) := by decide +kernel
theorem dX2_init_5 : decode cX2_init 5 = .ok (.iconst 0, 1) := by decide +kernel
theorem dX2_init_6 : decode cX2_init 6 = .ok (.putfield 9, 3) := by decide +kernel
theorem dX2_init_9 : decode cX2_init 9 = .ok (.aload_n 0, 1) := by decide +kernel
theorem dX2_init_10 : decode cX2_init 10 = .ok (.iconst 0, 1) := by decide +kernel
theorem dX2_init_11 : decode cX2_init 11 = .ok (.putfield 15, 3) := by decide +kernel
theorem dX2_init_14 : decode cX2_init 14 = .ok (.aload_n 0, 1) := by decide +kernel
theorem dX2_init_15 : decode cX2_init 15 = .ok (.iconst 0, 1) := by decide +kernel
theorem dX2_init_16 : decode cX2_init 16 = .ok (.putfield 18, 3) := by decide +kernel
theorem dX2_init_19 : decode cX2_init 19 = .ok (.aload_n 0, 1) := by decide +kernel
theorem dX2_init_20 : decode cX2_init 20 = .ok (.iconst 0, 1) := by decide +kernel
theorem dX2_init_21 : decode cX2_init 21 = .ok (.putfield 21, 3) := by decide +kernel
theorem dX2_init_24 : decode cX2_init 24 = .ok (.aload_n 0, 1) := by decide +kernel
theorem dX2_init_25 : decode cX2_init 25 = .ok (.iconst 0, 1) := by decide +kernel
theorem dX2_init_26 : decode cX2_init 26 = .ok (.putfield 24, 3) := by decide +kernel
theorem dX2_init_29 : decode cX2_init 29 = .ok (.aload_n 0, 1) := by decide +kernel
theorem dX2_init_30 : decode cX2_init 30 = .ok (.iconst 0, 1) := by decide +kernel
theorem dX2_init_31 : decode cX2_init 31 = .ok (.putfield 27, 3) := by decide +kernel
theorem dX2_init_34 : decode cX2_init 34 = .ok (.aload_n 0, 1) := by decide +kernel
theorem dX2_init_35 : decode cX2_init 35 = .ok (.iconst 0, 1) := by decide +kernel
theorem dX2_init_36 : decode cX2_init 36 = .ok (.putfield 30, 3) := by decide +kernel
theorem dX2_init_39 : decode cX2_init 39 = .ok (.aload_n 0, 1) := by decide +kernel
theorem dX2_init_40 : decode cX2_init 40 = .ok (.iconst 0, 1) := by decide +kernel
theorem dX2_init_41 : decode cX2_init 41 = .ok (.putfield 33, 3) := by decide +kernel
theorem dX2_init_44 : decode cX2_init 44 = .ok (.aload_n 0, 1) := by decide +kernel
theorem dX2_init_45 : decode cX2_init 45 = .ok (.iconst 0, 1) := by decide +kernel
theorem dX2_init_46 : decode cX2_init 46 = .ok (.putfield 36, 3) := by decide +kernel
theorem dX2_init_49 : decode cX2_init 49 = .ok (.aload_n 0, 1) := by decide +kernel
theorem dX2_init_50 : decode cX2_init 50 = .ok (.sipush 251, 3) := by decide +kernel
theorem dX2_init_53 : decode cX2_init 53 = .ok (.newarray .long, 2) := by decide +kernel
theorem dX2_init_55 : decode cX2_init 55 = .ok (.putfield 39, 3) := by decide +kernel
theorem dX2_init_58 : decode cX2_init 58 = .ok (.aload_n 0, 1) := by decide +kernel
theorem dX2_init_59 : decode cX2_init 59 = .ok (.bipush 64, 2) := by decide +kernel
theorem dX2_init_61 : decode cX2_init 61 = .ok (.newarray .int, 2) := by decide +kernel
theorem dX2_init_63 : decode cX2_init 63 = .ok (.putfield 43, 3) := by decide +kernel
theorem dX2_init_66 : decode cX2_init 66 = .ok (.aload_n 0, 1) := by decide +kernel
theorem dX2_init_67 : decode cX2_init 67 = .ok (.new 47, 3) := by decide +kernel
theorem dX2_init_70 : decode cX2_init 70 = .ok (.dup, 1) := by decide +kernel
theorem dX2_init_71 : decode cX2_init 71 = .ok (.bipush 8, 2) := by decide +kernel
theorem dX2_init_73 : decode cX2_init 73 = .ok (.iconst 5, 1) := by decide +kernel
theorem dX2_init_74 : decode cX2_init 74 = .ok (.invokespecial 49, 3) := by decide +kernel
theorem dX2_init_77 : decode cX2_init 77 = .ok (.putfield 52, 3) := by decide +kernel
theorem dX2_init_80 : decode cX2_init 80 = .ok (.aload_n 0, 1) := by decide +kernel
theorem dX2_init_81 : decode cX2_init 81 = .ok (.new 47, 3) := by decide +kernel
theorem dX2_init_84 : decode cX2_init 84 = .ok (.dup, 1) := by decide +kernel
theorem dX2_init_85 : decode cX2_init 85 = .ok (.bipush 80, 2) := by decide +kernel
theorem dX2_init_87 : decode cX2_init 87 = .ok (.bipush 8, 2) := by decide +kernel
theorem dX2_init_89 : decode cX2_init 89 = .ok (.invokespecial 49, 3) := by decide +kernel
theorem dX2_init_92 : decode cX2_init 92 = .ok (.putfield 56, 3) := by decide +kernel
theorem dX2_init_95 : decode cX2_init 95 = .ok (.aload_n 0, 1) := by decide +kernel
theorem dX2_init_96 : decode cX2_init 96 = .ok (.new 47, 3) := by decide +kernel
theorem dX2_init_99 : decode cX2_init 99 = .ok (.dup, 1) := by decide +kernel
theorem dX2_init_100 : decode cX2_init 100 = .ok (.bipush 60, 2) := by decide +kernel
theorem dX2_init_102 : decode cX2_init 102 = .ok (.bipush 7, 2) := by decide +kernel
theorem dX2_init_104 : decode cX2_init 104 = .ok (.invokespecial 49, 3) := by decide +kernel
theorem dX2_init_107 : decode cX2_init 107 = .ok (.putfield 59, 3) := by decide +kernel
theorem dX2_init_110 : decode cX2_init 110 = .ok (.aload_n 0, 1) := by decide +kernel
theorem dX2_init_111 : decode cX2_init 111 = .ok (.new 47, 3) := by decide +kernel
theorem dX2_init_114 : decode cX2_init 114 = .ok (.dup, 1) := by decide +kernel
theorem dX2_init_115 : decode cX2_init 115 = .ok (.bipush 40, 2) := by decide +kernel
theorem dX2_init_117 : decode cX2_init 117 = .ok (.bipush 8, 2) := by decide +kernel
theorem dX2_init_119 : decode cX2_init 119 = .ok (.invokespecial 49, 3) := by decide +kernel
theorem dX2_init_122 : decode cX2_init 122 = .ok (.putfield 62, 3) := by decide +kernel
theorem dX2_init_125 : decode cX2_init 125 = .ok (.aload_n 0, 1) := by decide +kernel
theorem dX2_init_126 : decode cX2_init 126 = .ok (.bipush 60, 2) := by decide +kernel
theorem dX2_init_128 : decode cX2_init 128 = .ok (.newarray .int, 2) := by decide +kernel
theorem dX2_init_130 : decode cX2_init 130 = .ok (.putfield 65, 3) := by decide +kernel
theorem dX2_init_133 : decode cX2_init 133 = .ok (.return_, 1) := by decide +kernel
theorem dX3_init_0 : decode cX3_init 0 = .ok (.aload_n 0, 1) := by decide +kernel
theorem dX3_init_1 : decode cX3_init 1 = .ok (.invokespecial 3, 3) := by decide +kernel
theorem dX3_init_4 : decode cX3_init 4 = .ok (.aload_n 0, 1) := by decide +kernel
theorem dX3_init_5 : decode cX3_init 5 = .ok (.bipush 8, 2) := by decide +kernel
theorem dX3_init_7 : decode cX3_init 7 = .ok (.anewarray 9, 3) := by decide +kernel
theorem dX3_init_10 : decode cX3_init 10 = .ok (.putfield 11, 3) := by decide +kernel
theorem dX3_init_13 : decode cX3_init 13 = .ok (.aload_n 0, 1) := by decide +kernel
theorem dX3_init_14 : decode cX3_init 14 = .ok (.iconst 0, 1) := by decide +kernel
theorem dX3_init_15 : decode cX3_init 15 = .ok (.putfield 17, 3) := by decide +kernel
theorem dX3_init_18 : decode cX3_init 18 = .ok (.aload_n 0, 1) := by decide +kernel
theorem dX3_init_19 : decode cX3_init 19 = .ok (.iconst 0, 1) := by decide +kernel
theorem dX3_init_20 : decode cX3_init 20 = .ok (.putfield 21, 3) := by decide +kernel
theorem dX3_init_23 : decode cX3_init 23 = .ok (.return_, 1) := by decide +kernel
theorem dX4_init_0 : decode cX4_init 0 = .ok (.aload_n 0, 1) := by decide +kernel
theorem dX4_init_1 : decode cX4_init 1 = .ok (.invokespecial 3, 3) := by decide +kernel
theorem dX4_init_4 : decode cX4_init 4 = .ok (.aload_n 0, 1) := by decide +kernel
theorem dX4_init_5 : decode cX4_init 5 = .ok (.new 9, 3) := by decide +kernel
theorem dX4_init_8 : decode cX4_init 8 = .ok (.dup, 1) := by decide +kernel
theorem dX4_init_9 : decode cX4_init 9 = .ok (.invokespecial 11, 3) := by decide +kernel
theorem dX4_init_12 : decode cX4_init 12 = .ok (.putfield 12, 3) := by decide +kernel
theorem dX4_init_15 : decode cX4_init 15 = .ok (.aload_n 0, 1) := by decide +kernel
theorem dX4_init_16 : decode cX4_init 16 = .ok (.iconst 0, 1) := by decide +kernel
theorem dX4_init_17 : decode cX4_init 17 = .ok (.putfield 18, 3) := by decide +kernel
theorem dX4_init_20 : decode cX4_init 20 = .ok (.aload_n 0, 1) := by decide +kernel
theorem dX4_init_21 : decode cX4_init 21 = .ok (.iconst (-1), 1) := by decide +kernel
theorem dX4_init_22 : decode cX4_init 22 = .ok (.putfield 22, 3) := by decide +kernel
theorem dX4_init_25 : decode cX4_init 25 = .ok (.aload_n 0, 1) := by decide +kernel
theorem dX4_init_26 : decode cX4_init 26 = .ok (.iconst 0, 1) := by decide +kernel
theorem dX4_init_27 : decode cX4_init 27 = .ok (.putfield 25, 3) := by decide +kernel
theorem dX4_init_30 : decode cX4_init 30 = .ok (.aload_n 0, 1) := by decide +kernel
theorem dX4_init_31 : decode cX4_init 31 = .ok (.iconst 0, 1) := by decide +kernel
theorem dX4_init_32 : decode cX4_init 32 = .ok (.putfield 28, 3) := by decide +kernel
theorem dX4_init_35 : decode cX4_init 35 = .ok (.aload_n 0, 1) := by decide +kernel
theorem dX4_init_36 : decode cX4_init 36 = .ok (.iconst 0, 1) := by decide +kernel
theorem dX4_init_37 : decode cX4_init 37 = .ok (.putfield 31, 3) := by decide +kernel
theorem dX4_init_40 : decode cX4_init 40 = .ok (.aload_n 0, 1) := by decide +kernel
theorem dX4_init_41 : decode cX4_init 41 = .ok (.getstatic 34, 3) := by decide +kernel
theorem dX4_init_44 : decode cX4_init 44 = .ok (.putfield 40, 3) := by decide +kernel
theorem dX4_init_47 : decode cX4_init 47 = .ok (.aload_n 0, 1) := by decide +kernel
theorem dX4_init_48 : decode cX4_init 48 = .ok (.iconst 0, 1) := by decide +kernel
theorem dX4_init_49 : decode cX4_init 49 = .ok (.putfield 43, 3) := by decide +kernel
theorem dX4_init_52 : decode cX4_init 52 = .ok (.aload_n 0, 1) := by decide +kernel
theorem dX4_init_53 : decode cX4_init 53 = .ok (.iconst 0, 1) := by decide +kernel
theorem dX4_init_54 : decode cX4_init 54 = .ok (.putfield 46, 3) := by decide +kernel
theorem dX4_init_57 : decode cX4_init 57 = .ok (.aload_n 0, 1) := by decide +kernel
theorem dX4_init_58 : decode cX4_init 58 = .ok (.iconst 0, 1) := by decide +kernel
theorem dX4_init_59 : decode cX4_init 59 = .ok (.putfield 49, 3) := by decide +kernel
theorem dX4_init_62 : decode cX4_init 62 = .ok (.aload_n 0, 1) := by decide +kernel
theorem dX4_init_63 : decode cX4_init 63 = .ok (.aload_n 1, 1) := by decide +kernel
theorem dX4_init_64 : decode cX4_init 64 = .ok (.putfield 52, 3) := by decide +kernel
theorem dX4_init_67 : decode cX4_init 67 = .ok (.aload_n 0, 1) := by decide +kernel
theorem dX4_init_68 : decode cX4_init 68 = .ok (.aload_n 2, 1) := by decide +kernel
theorem dX4_init_69 : decode cX4_init 69 = .ok (.putfield 56, 3) := by decide +kernel
theorem dX4_init_72 : decode cX4_init 72 = .ok (.return_, 1) := by decide +kernel
theorem dX8_init_0 : decode cX8_init 0 = .ok (.aload_n 0, 1) := by decide +kernel
theorem dX8_init_1 : decode cX8_init 1 = .ok (.invokespecial 3, 3) := by decide +kernel
theorem dX8_init_4 : decode cX8_init 4 = .ok (.aload_n 0, 1) := by decide +kernel
theorem dX8_init_5 : decode cX8_init 5 = .ok (.new 9, 3) := by decide +kernel
theorem dX8_init_8 : decode cX8_init 8 = .ok (.dup, 1) := by decide +kernel
theorem dX8_init_9 : decode cX8_init 9 = .ok (.sipush 600, 3) := by decide +kernel
theorem dX8_init_12 : decode cX8_init 12 = .ok (.invokespecial 11, 3) := by decide +kernel
theorem dX8_init_15 : decode cX8_init 15 = .ok (.putfield 14, 3) := by decide +kernel
theorem dX8_init_18 : decode cX8_init 18 = .ok (.aload_n 0, 1) := by decide +kernel
theorem dX8_init_19 : decode cX8_init 19 = .ok (.new 9, 3) := by decide +kernel
theorem dX8_init_22 : decode cX8_init 22 = .ok (.dup, 1) := by decide +kernel
theorem dX8_init_23 : decode cX8_init 23 = .ok (.sipush 1024, 3) := by decide +kernel
theorem dX8_init_26 : decode cX8_init 26 = .ok (.invokespecial 11, 3) := by decide +kernel
theorem dX8_init_29 : decode cX8_init 29 = .ok (.putfield 18, 3) := by decide +kernel
theorem dX8_init_32 : decode cX8_init 32 = .ok (.aload_n 0, 1) := by decide +kernel
theorem dX8_init_33 : decode cX8_init 33 = .ok (.new 21, 3) := by decide +kernel
theorem dX8_init_36 : decode cX8_init 36 = .ok (.dup, 1) := by decide +kernel
theorem dX8_init_37 : decode cX8_init 37 = .ok (.invokespecial 23, 3) := by decide +kernel
theorem dX8_init_40 : decode cX8_init 40 = .ok (.putfield 24, 3) := by decide +kernel
theorem dX8_init_43 : decode cX8_init 43 = .ok (.aload_n 0, 1) := by decide +kernel
theorem dX8_init_44 : decode cX8_init 44 = .ok (.new 28, 3) := by decide +kernel
theorem dX8_init_47 : decode cX8_init 47 = .ok (.dup, 1) := by decide +kernel
theorem dX8_init_48 : decode cX8_init 48 = .ok (.invokespecial 30, 3) := by decide +kernel
theorem dX8_init_51 : decode cX8_init 51 = .ok (.putfield 31, 3) := by decide +kernel
theorem dX8_init_54 : decode cX8_init 54 = .ok (.aload_n 0, 1) := by decide +kernel
theorem dX8_init_55 : decode cX8_init 55 = .ok (.new 28, 3) := by decide +kernel
theorem dX8_init_58 : decode cX8_init 58 = .ok (.dup, 1) := by decide +kernel
theorem dX8_init_59 : decode cX8_init 59 = .ok (.invokespecial 30, 3) := by decide +kernel
theorem dX8_init_62 : decode cX8_init 62 = .ok (.putfield 35, 3) := by decide +kernel
theorem dX8_init_65 : decode cX8_init 65 = .ok (.aload_n 0, 1) := by decide +kernel
theorem dX8_init_66 : decode cX8_init 66 = .ok (.new 38, 3) := by decide +kernel
theorem dX8_init_69 : decode cX8_init 69 = .ok (.dup, 1) := by decide +kernel
theorem dX8_init_70 : decode cX8_init 70 = .ok (.aload_n 0, 1) := by decide +kernel
theorem dX8_init_71 : decode cX8_init 71 = .ok (.getfield 14, 3) := by decide +kernel
theorem dX8_init_74 : decode cX8_init 74 = .ok (.aload_n 0, 1) := by decide +kernel
theorem dX8_init_75 : decode cX8_init 75 = .ok (.getfield 35, 3) := by decide +kernel
theorem dX8_init_78 : decode cX8_init 78 = .ok (.invokespecial 40, 3) := by decide +kernel
theorem dX8_init_81 : decode cX8_init 81 = .ok (.putfield 43, 3) := by decide +kernel
theorem dX8_init_84 : decode cX8_init 84 = .ok (.aload_n 0, 1) := by decide +kernel
theorem dX8_init_85 : decode cX8_init 85 = .ok (.new 47, 3) := by decide +kernel
theorem dX8_init_88 : decode cX8_init 88 = .ok (.dup, 1) := by decide +kernel
theorem dX8_init_89 : decode cX8_init 89 = .ok (.invokespecial 49, 3) := by decide +kernel
theorem dX8_init_92 : decode cX8_init 92 = .ok (.putfield 50, 3) := by decide +kernel
theorem dX8_init_95 : decode cX8_init 95 = .ok (.aload_n 0, 1) := by decide +kernel
theorem dX8_init_96 : decode cX8_init 96 = .ok (.aconst_null, 1) := by decide +kernel
theorem dX8_init_97 : decode cX8_init 97 = .ok (.putfield 54, 3) := by decide +kernel
theorem dX8_init_100 : decode cX8_init 100 = .ok (.aload_n 0, 1) := by decide +kernel
theorem dX8_init_101 : decode cX8_init 101 = .ok (.iconst 0, 1) := by decide +kernel
theorem dX8_init_102 : decode cX8_init 102 = .ok (.putfield 57, 3) := by decide +kernel
theorem dX8_init_105 : decode cX8_init 105 = .ok (.aload_n 0, 1) := by decide +kernel
theorem dX8_init_106 : decode cX8_init 106 = .ok (.getfield 24, 3) := by decide +kernel
theorem dX8_init_109 : decode cX8_init 109 = .ok (.getstatic 61, 3) := by decide +kernel
theorem dX8_init_112 : decode cX8_init 112 = .ok (.getfield 67, 3) := by decide +kernel
theorem dX8_init_115 : decode cX8_init 115 = .ok (.invokevirtual 71, 3) := by decide +kernel
theorem dX8_init_118 : decode cX8_init 118 = .ok (.aload_n 0, 1) := by decide +kernel
theorem dX8_init_119 : decode cX8_init 119 = .ok (.getfield 31, 3) := by decide +kernel
theorem dX8_init_122 : decode cX8_init 122 = .ok (.getstatic 61, 3) := by decide +kernel
theorem dX8_init_125 : decode cX8_init 125 = .ok (.getfield 67, 3) := by decide +kernel
theorem dX8_init_128 : decode cX8_init 128 = .ok (.invokevirtual 74, 3) := by decide +kernel
theorem dX8_init_131 : decode cX8_init 131 = .ok (.return_, 1) := by decide +kernel
set_option maxHeartbeats 4000000 in
set_option maxRecDepth 100000 in
theorem c_X1_init (l : Launch) (k : KT)  (a0 : Nat) (v1 : Int32) (z : Nat) (hm : (if (0 : Int32) < v1 then v1 else 0) = v1) (hn : ¬ v1 < 0) (hz : v1.toNatClampNeg = z) (hb : z ≤ 100000) : CG l k yX1_init cX1_init 2 none 1 1 z 22 [.ref a0, .int v1] [(a0, .inr (2, [.null, .int 0]))] (Qv k (fun u : Nat → Nat => wBytes k (adr a0 u) z zOS) (fun _ => True)) := by
  refine CG.ofV (by decide) (Nat.le_of_ble_eq_true rfl) (fun p e s m args below meth c A Q E hnm hW hA hret ls hl => ?_)
  have hl : lv_has ls 2 [(0, .ref a0), (1, .int v1)] := hl
  refine k_aload_n E hl 0 dX1_init_0 rfl ?_
  refine k_objInit E hl tm_75 dX1_init_1 (by first | exact Nat.le_of_ble_eq_true rfl | exact Nat.zero_le _ | simp) (by first | exact Nat.le_of_ble_eq_true rfl | exact Nat.zero_le _ | simp) ?_
  refine k_aload_n E hl 0 dX1_init_4 rfl ?_
  refine lv_iconst (v := (0 : Int32)) E.hx E.hb dX1_init_5 ic_0 ?_
  refine pf_X1_9 (ws2 := [(a0, .inr (2, [.null, .int (0 : Int32)]))]) E hW 0 rfl rfl rfl (Nat.le_of_ble_eq_true rfl) dX1_init_6 rfl (fun H locs hW => ?_)
  refine k_aload_n E hl 0 dX1_init_9 rfl ?_
  refine lv_iconst (v := (0 : Int32)) E.hx E.hb dX1_init_10 ic_0 ?_
  refine k_iload_n E hl 1 dX1_init_11 rfl ?_
  refine va_mmax E.hx E.hb (E.hml.trans hl.1.symm) E.ho (E.w tm_76 rfl) (E.w tm_77 rfl) (E.w tm_35 rfl) (E.w tm_78 rfl) (by first | exact Nat.le_of_ble_eq_true rfl | exact Nat.zero_le _ | simp) (Nat.le_of_ble_eq_true rfl) (by first | exact Nat.le_of_ble_eq_true rfl | exact Nat.zero_le _ | simp) (by first | exact Nat.le_of_ble_eq_true rfl | exact Nat.zero_le _ | simp) dX1_init_12 ?_
  refine k_topi (y := v1) hm.symm ?_
  refine k_newB (N := z) E hW hA hn hz hb (by first | exact Nat.le_of_ble_eq_true rfl | exact Nat.zero_le _ | simp) (by first | exact Nat.le_of_ble_eq_true rfl | exact Nat.zero_le _ | simp) dX1_init_15 (fun q1 H hW => ?_)
  have hW : WD k A s.heap ([(a0, .inr (2, [.null, .int (0 : Int32)]))] ++ [(q1, .inl (k.2.1.1 2, z, .inl (fun _ => 0)))]) H _ := hW
  refine pf_X1_21 (ws2 := [(a0, .inr (2, [.ref q1, .int (0 : Int32)]))] ++ [(q1, .inl (k.2.1.1 2, z, .inl (fun _ => 0)))]) E hW 0 rfl hnm rfl rfl (Nat.le_of_ble_eq_true rfl) dX1_init_17 rfl (fun H locs hW => ?_)
  exact hret (lst [q1]) _ _ _ _ _ _ hW trivial (by first | exact Nat.le_of_ble_eq_true rfl | exact Nat.zero_le _ | simp) (by first | exact Nat.le_of_ble_eq_true rfl | exact Nat.zero_le _ | simp) dX1_init_20
set_option maxHeartbeats 4000000 in
set_option maxRecDepth 100000 in
theorem c_X6_init (l : Launch) (k : KT)  (a0 : Nat) (v1 : Int32) (v2 : Int32) (z : Nat) (hm : (if (0 : Int32) < (v1 * v2) then (v1 * v2) else 0) = (v1 * v2)) (hn : ¬ (v1 * v2) < 0) (hz : (v1 * v2).toNatClampNeg = z) (hb : z ≤ 100000) : CG l k yX6_init cX6_init 3 none 1 1 z 22 [.ref a0, .int v1, .int v2] [(a0, .inr (7, [.int 0, .null]))] (Qv k (fun u : Nat → Nat => wTable k (adr a0 u) v2 z (fun _ => 0)) (fun _ => True)) := by
  refine CG.ofV (by decide) (Nat.le_of_ble_eq_true rfl) (fun p e s m args below meth c A Q E hnm hW hA hret ls hl => ?_)
  have hl : lv_has ls 3 [(0, .ref a0), (1, .int v1), (2, .int v2)] := hl
  refine k_aload_n E hl 0 dX6_init_0 rfl ?_
  refine k_objInit E hl tm_100 dX6_init_1 (by first | exact Nat.le_of_ble_eq_true rfl | exact Nat.zero_le _ | simp) (by first | exact Nat.le_of_ble_eq_true rfl | exact Nat.zero_le _ | simp) ?_
  refine k_aload_n E hl 0 dX6_init_4 rfl ?_
  refine k_iload_n E hl 2 dX6_init_5 rfl ?_
  refine pf_X6_7 (ws2 := [(a0, .inr (7, [.int v2, .null]))]) E hW 0 rfl hnm rfl rfl (Nat.le_of_ble_eq_true rfl) dX6_init_6 rfl (fun H locs hW => ?_)
  refine k_aload_n E hl 0 dX6_init_9 rfl ?_
  refine lv_iconst (v := (0 : Int32)) E.hx E.hb dX6_init_10 ic_0 ?_
  refine k_iload_n E hl 1 dX6_init_11 rfl ?_
  refine k_iload_n E hl 2 dX6_init_12 rfl ?_
  refine lv_imul E.hx E.hb dX6_init_13 ?_
  refine va_mmax E.hx E.hb (E.hml.trans hl.1.symm) E.ho (E.w tm_101 rfl) (E.w tm_77 rfl) (E.w tm_35 rfl) (E.w tm_78 rfl) (by first | exact Nat.le_of_ble_eq_true rfl | exact Nat.zero_le _ | simp) (Nat.le_of_ble_eq_true rfl) (by first | exact Nat.le_of_ble_eq_true rfl | exact Nat.zero_le _ | simp) (by first | exact Nat.le_of_ble_eq_true rfl | exact Nat.zero_le _ | simp) dX6_init_14 ?_
  refine k_topi (y := (v1 * v2)) hm.symm ?_
  refine k_newI (N := z) E hW hA hn hz hb (by first | exact Nat.le_of_ble_eq_true rfl | exact Nat.zero_le _ | simp) (by first | exact Nat.le_of_ble_eq_true rfl | exact Nat.zero_le _ | simp) dX6_init_17 (fun q1 H hW => ?_)
  have hW : WD k A s.heap ([(a0, .inr (7, [.int v2, .null]))] ++ [(q1, .inl (k.2.1.1 0, z, .inl (fun _ => 0)))]) H _ := hW
  refine pf_X6_19 (ws2 := [(a0, .inr (7, [.int v2, .ref q1]))] ++ [(q1, .inl (k.2.1.1 0, z, .inl (fun _ => 0)))]) E hW 0 rfl hnm rfl rfl (Nat.le_of_ble_eq_true rfl) dX6_init_19 rfl (fun H locs hW => ?_)
  exact hret (lst [q1]) _ _ _ _ _ _ hW trivial (by first | exact Nat.le_of_ble_eq_true rfl | exact Nat.zero_le _ | simp) (by first | exact Nat.le_of_ble_eq_true rfl | exact Nat.zero_le _ | simp) dX6_init_22
set_option maxHeartbeats 4000000 in
set_option maxRecDepth 100000 in
theorem c_X5_init (l : Launch) (k : KT)  (a0 : Nat)   : CG l k yX5_init cX5_init 1 none 2 2 58 44 [.ref a0] [(a0, .inr (6, [.int 0, .int 0, .int 0, .int 0, .int 0, .int 0, .int 0, .null]))] (Qv k (fun u : Nat → Nat => wRules k (adr a0 u) zOS) (fun _ => True)) := by
  refine CG.ofV (by decide) (Nat.le_of_ble_eq_true rfl) (fun p e s m args below meth c A Q E hnm hW hA hret ls hl => ?_)
  have hl : lv_has ls 1 [(0, .ref a0)] := hl
  refine k_aload_n E hl 0 dX5_init_0 rfl ?_
  refine k_objInit E hl tm_94 dX5_init_1 (by first | exact Nat.le_of_ble_eq_true rfl | exact Nat.zero_le _ | simp) (by first | exact Nat.le_of_ble_eq_true rfl | exact Nat.zero_le _ | simp) ?_
  refine k_aload_n E hl 0 dX5_init_4 rfl ?_
  refine lv_iconst (v := (0 : Int32)) E.hx E.hb dX5_init_5 ic_0 ?_
  refine pf_X5_9 (ws2 := [(a0, .inr (6, [.int (0 : Int32), .int 0, .int 0, .int 0, .int 0, .int 0, .int 0, .null]))]) E hW 0 rfl rfl rfl (Nat.le_of_ble_eq_true rfl) dX5_init_6 rfl (fun H locs hW => ?_)
  refine k_aload_n E hl 0 dX5_init_9 rfl ?_
  refine lv_iconst (v := (0 : Int32)) E.hx E.hb dX5_init_10 ic_0 ?_
  refine pf_X5_15 (ws2 := [(a0, .inr (6, [.int (0 : Int32), .int (0 : Int32), .int 0, .int 0, .int 0, .int 0, .int 0, .null]))]) E hW 0 rfl rfl rfl (Nat.le_of_ble_eq_true rfl) dX5_init_11 rfl (fun H locs hW => ?_)
  refine k_aload_n E hl 0 dX5_init_14 rfl ?_
  refine lv_iconst (v := (0 : Int32)) E.hx E.hb dX5_init_15 ic_0 ?_
  refine pf_X5_18 (ws2 := [(a0, .inr (6, [.int (0 : Int32), .int (0 : Int32), .int (0 : Int32), .int 0, .int 0, .int 0, .int 0, .null]))]) E hW 0 rfl rfl rfl (Nat.le_of_ble_eq_true rfl) dX5_init_16 rfl (fun H locs hW => ?_)
  refine k_aload_n E hl 0 dX5_init_19 rfl ?_
  refine lv_iconst (v := (0 : Int32)) E.hx E.hb dX5_init_20 ic_0 ?_
  refine pf_X5_21 (ws2 := [(a0, .inr (6, [.int (0 : Int32), .int (0 : Int32), .int (0 : Int32), .int (0 : Int32), .int 0, .int 0, .int 0, .null]))]) E hW 0 rfl rfl rfl (Nat.le_of_ble_eq_true rfl) dX5_init_21 rfl (fun H locs hW => ?_)
  refine k_aload_n E hl 0 dX5_init_24 rfl ?_
  refine lv_iconst (v := (0 : Int32)) E.hx E.hb dX5_init_25 ic_0 ?_
  refine pf_X5_24 (ws2 := [(a0, .inr (6, [.int (0 : Int32), .int (0 : Int32), .int (0 : Int32), .int (0 : Int32), .int (0 : Int32), .int 0, .int 0, .null]))]) E hW 0 rfl rfl rfl (Nat.le_of_ble_eq_true rfl) dX5_init_26 rfl (fun H locs hW => ?_)
  refine k_aload_n E hl 0 dX5_init_29 rfl ?_
  refine lv_iconst (v := (0 : Int32)) E.hx E.hb dX5_init_30 ic_0 ?_
  refine pf_X5_27 (ws2 := [(a0, .inr (6, [.int (0 : Int32), .int (0 : Int32), .int (0 : Int32), .int (0 : Int32), .int (0 : Int32), .int (0 : Int32), .int 0, .null]))]) E hW 0 rfl rfl rfl (Nat.le_of_ble_eq_true rfl) dX5_init_31 rfl (fun H locs hW => ?_)
  refine k_aload_n E hl 0 dX5_init_34 rfl ?_
  refine lv_iconst (v := (0 : Int32)) E.hx E.hb dX5_init_35 ic_0 ?_
  refine pf_X5_30 (ws2 := [(a0, .inr (6, [.int (0 : Int32), .int (0 : Int32), .int (0 : Int32), .int (0 : Int32), .int (0 : Int32), .int (0 : Int32), .int (0 : Int32), .null]))]) E hW 0 rfl rfl rfl (Nat.le_of_ble_eq_true rfl) dX5_init_36 rfl (fun H locs hW => ?_)
  refine k_aload_n E hl 0 dX5_init_39 rfl ?_
  refine nw_X5_33 E hW hA (by decide) (by decide) dX5_init_40 (fun q1 H hW => ?_)
  have hW : WD k A s.heap ([(a0, .inr (6, [.int (0 : Int32), .int (0 : Int32), .int (0 : Int32), .int (0 : Int32), .int (0 : Int32), .int (0 : Int32), .int (0 : Int32), .null]))] ++ [(q1, .inr (7, [.int 0, .null]))]) H _ := hW
  refine lv_dup E.hx E.hb dX5_init_43 rfl ?_
  refine lv_bipush (v := (8 : Int32)) E.hx E.hb dX5_init_44 bp_8 ?_
  refine lv_bipush (v := (7 : Int32)) E.hx E.hb dX5_init_46 bp_7 ?_
  refine k_callNew (As := [.int (8 : Int32), .int (7 : Int32)]) (rest := [.ref q1, .ref a0]) (c_X6_init l k q1 (8 : Int32) (7 : Int32) 56 (by decide) (by decide) (by decide) (by decide)) E il_X5_35 dX5_init_48 rfl hW hA hl rfl ⟨by decide, by decide⟩ ⟨by decide, by decide⟩ (Nat.le_of_ble_eq_true rfl) (fun u2 H locs _ hW => ?_)
  have hW : WD k A s.heap ([(a0, .inr (6, [.int (0 : Int32), .int (0 : Int32), .int (0 : Int32), .int (0 : Int32), .int (0 : Int32), .int (0 : Int32), .int (0 : Int32), .null]))] ++ wTable k (adr q1 u2) (7 : Int32) 56 (fun _ => 0)) H locs := hW
  refine pf_X5_38 (ws2 := [(a0, .inr (6, [.int (0 : Int32), .int (0 : Int32), .int (0 : Int32), .int (0 : Int32), .int (0 : Int32), .int (0 : Int32), .int (0 : Int32), .ref q1]))] ++ wTable k (adr q1 u2) (7 : Int32) 56 (fun _ => 0)) E hW 0 rfl hnm rfl rfl (Nat.le_of_ble_eq_true rfl) dX5_init_51 rfl (fun H locs hW => ?_)
  exact hret (lst [q1, u2 0]) _ _ _ _ _ _ hW trivial (by first | exact Nat.le_of_ble_eq_true rfl | exact Nat.zero_le _ | simp) (by first | exact Nat.le_of_ble_eq_true rfl | exact Nat.zero_le _ | simp) dX5_init_54
set_option maxHeartbeats 4000000 in
set_option maxRecDepth 100000 in
theorem c_X2_init (l : Launch) (k : KT)  (a0 : Nat)   : CG l k yX2_init cX2_init 1 none 2 11 1803 44 [.ref a0] [(a0, .inr (3, [.int 0, .int 0, .int 0, .int 0, .int 0, .int 0, .int 0, .int 0, .int 0, .null, .null, .null, .null, .null, .null, .null]))] (Qv k (fun u : Nat → Nat => wCourt k (adr a0 u) zOS) (fun _ => True)) := by
  refine CG.ofV (by decide) (Nat.le_of_ble_eq_true rfl) (fun p e s m args below meth c A Q E hnm hW hA hret ls hl => ?_)
  have hl : lv_has ls 1 [(0, .ref a0)] := hl
  refine k_aload_n E hl 0 dX2_init_0 rfl ?_
  refine k_objInit E hl tm_152 dX2_init_1 (by first | exact Nat.le_of_ble_eq_true rfl | exact Nat.zero_le _ | simp) (by first | exact Nat.le_of_ble_eq_true rfl | exact Nat.zero_le _ | simp) ?_
  refine k_aload_n E hl 0 dX2_init_4 rfl ?_
  refine lv_iconst (v := (0 : Int32)) E.hx E.hb dX2_init_5 ic_0 ?_
  refine pf_X2_9 (ws2 := [(a0, .inr (3, [.int (0 : Int32), .int 0, .int 0, .int 0, .int 0, .int 0, .int 0, .int 0, .int 0, .null, .null, .null, .null, .null, .null, .null]))]) E hW 0 rfl rfl rfl (Nat.le_of_ble_eq_true rfl) dX2_init_6 rfl (fun H locs hW => ?_)
  refine k_aload_n E hl 0 dX2_init_9 rfl ?_
  refine lv_iconst (v := (0 : Int32)) E.hx E.hb dX2_init_10 ic_0 ?_
  refine pf_X2_15 (ws2 := [(a0, .inr (3, [.int (0 : Int32), .int (0 : Int32), .int 0, .int 0, .int 0, .int 0, .int 0, .int 0, .int 0, .null, .null, .null, .null, .null, .null, .null]))]) E hW 0 rfl rfl rfl (Nat.le_of_ble_eq_true rfl) dX2_init_11 rfl (fun H locs hW => ?_)
  refine k_aload_n E hl 0 dX2_init_14 rfl ?_
  refine lv_iconst (v := (0 : Int32)) E.hx E.hb dX2_init_15 ic_0 ?_
  refine pf_X2_18 (ws2 := [(a0, .inr (3, [.int (0 : Int32), .int (0 : Int32), .int (0 : Int32), .int 0, .int 0, .int 0, .int 0, .int 0, .int 0, .null, .null, .null, .null, .null, .null, .null]))]) E hW 0 rfl rfl rfl (Nat.le_of_ble_eq_true rfl) dX2_init_16 rfl (fun H locs hW => ?_)
  refine k_aload_n E hl 0 dX2_init_19 rfl ?_
  refine lv_iconst (v := (0 : Int32)) E.hx E.hb dX2_init_20 ic_0 ?_
  refine pf_X2_21 (ws2 := [(a0, .inr (3, [.int (0 : Int32), .int (0 : Int32), .int (0 : Int32), .int (0 : Int32), .int 0, .int 0, .int 0, .int 0, .int 0, .null, .null, .null, .null, .null, .null, .null]))]) E hW 0 rfl rfl rfl (Nat.le_of_ble_eq_true rfl) dX2_init_21 rfl (fun H locs hW => ?_)
  refine k_aload_n E hl 0 dX2_init_24 rfl ?_
  refine lv_iconst (v := (0 : Int32)) E.hx E.hb dX2_init_25 ic_0 ?_
  refine pf_X2_24 (ws2 := [(a0, .inr (3, [.int (0 : Int32), .int (0 : Int32), .int (0 : Int32), .int (0 : Int32), .int (0 : Int32), .int 0, .int 0, .int 0, .int 0, .null, .null, .null, .null, .null, .null, .null]))]) E hW 0 rfl rfl rfl (Nat.le_of_ble_eq_true rfl) dX2_init_26 rfl (fun H locs hW => ?_)
  refine k_aload_n E hl 0 dX2_init_29 rfl ?_
  refine lv_iconst (v := (0 : Int32)) E.hx E.hb dX2_init_30 ic_0 ?_
  refine pf_X2_27 (ws2 := [(a0, .inr (3, [.int (0 : Int32), .int (0 : Int32), .int (0 : Int32), .int (0 : Int32), .int (0 : Int32), .int (0 : Int32), .int 0, .int 0, .int 0, .null, .null, .null, .null, .null, .null, .null]))]) E hW 0 rfl rfl rfl (Nat.le_of_ble_eq_true rfl) dX2_init_31 rfl (fun H locs hW => ?_)
  refine k_aload_n E hl 0 dX2_init_34 rfl ?_
  refine lv_iconst (v := (0 : Int32)) E.hx E.hb dX2_init_35 ic_0 ?_
  refine pf_X2_30 (ws2 := [(a0, .inr (3, [.int (0 : Int32), .int (0 : Int32), .int (0 : Int32), .int (0 : Int32), .int (0 : Int32), .int (0 : Int32), .int (0 : Int32), .int 0, .int 0, .null, .null, .null, .null, .null, .null, .null]))]) E hW 0 rfl rfl rfl (Nat.le_of_ble_eq_true rfl) dX2_init_36 rfl (fun H locs hW => ?_)
  refine k_aload_n E hl 0 dX2_init_39 rfl ?_
  refine lv_iconst (v := (0 : Int32)) E.hx E.hb dX2_init_40 ic_0 ?_
  refine pf_X2_33 (ws2 := [(a0, .inr (3, [.int (0 : Int32), .int (0 : Int32), .int (0 : Int32), .int (0 : Int32), .int (0 : Int32), .int (0 : Int32), .int (0 : Int32), .int (0 : Int32), .int 0, .null, .null, .null, .null, .null, .null, .null]))]) E hW 0 rfl rfl rfl (Nat.le_of_ble_eq_true rfl) dX2_init_41 rfl (fun H locs hW => ?_)
  refine k_aload_n E hl 0 dX2_init_44 rfl ?_
  refine lv_iconst (v := (0 : Int32)) E.hx E.hb dX2_init_45 ic_0 ?_
  refine pf_X2_36 (ws2 := [(a0, .inr (3, [.int (0 : Int32), .int (0 : Int32), .int (0 : Int32), .int (0 : Int32), .int (0 : Int32), .int (0 : Int32), .int (0 : Int32), .int (0 : Int32), .int (0 : Int32), .null, .null, .null, .null, .null, .null, .null]))]) E hW 0 rfl rfl rfl (Nat.le_of_ble_eq_true rfl) dX2_init_46 rfl (fun H locs hW => ?_)
  refine k_aload_n E hl 0 dX2_init_49 rfl ?_
  refine lv_sipush (v := (251 : Int32)) E.hx E.hb dX2_init_50 sp_251 ?_
  refine k_newJ (N := 251) E hW hA (by decide) (by decide) (by decide) (by decide) (by decide) dX2_init_53 (fun q1 H hW => ?_)
  have hW : WD k A s.heap ([(a0, .inr (3, [.int (0 : Int32), .int (0 : Int32), .int (0 : Int32), .int (0 : Int32), .int (0 : Int32), .int (0 : Int32), .int (0 : Int32), .int (0 : Int32), .int (0 : Int32), .null, .null, .null, .null, .null, .null, .null]))] ++ [(q1, .inl (k.2.1.1 1, 251, .inr (.inl (fun _ => 0))))]) H _ := hW
  refine pf_X2_39 (ws2 := [(a0, .inr (3, [.int (0 : Int32), .int (0 : Int32), .int (0 : Int32), .int (0 : Int32), .int (0 : Int32), .int (0 : Int32), .int (0 : Int32), .int (0 : Int32), .int (0 : Int32), .ref q1, .null, .null, .null, .null, .null, .null]))] ++ [(q1, .inl (k.2.1.1 1, 251, .inr (.inl (fun _ => 0))))]) E hW 0 rfl hnm rfl rfl (Nat.le_of_ble_eq_true rfl) dX2_init_55 rfl (fun H locs hW => ?_)
  refine k_aload_n E hl 0 dX2_init_58 rfl ?_
  refine lv_bipush (v := (64 : Int32)) E.hx E.hb dX2_init_59 bp_64 ?_
  refine k_newI (N := 64) E hW hA (by decide) (by decide) (by decide) (by decide) (by decide) dX2_init_61 (fun q2 H hW => ?_)
  have hW : WD k A s.heap ([(a0, .inr (3, [.int (0 : Int32), .int (0 : Int32), .int (0 : Int32), .int (0 : Int32), .int (0 : Int32), .int (0 : Int32), .int (0 : Int32), .int (0 : Int32), .int (0 : Int32), .ref q1, .null, .null, .null, .null, .null, .null]))] ++ [(q1, .inl (k.2.1.1 1, 251, .inr (.inl (fun _ => 0))))] ++ [(q2, .inl (k.2.1.1 0, 64, .inl (fun _ => 0)))]) H _ := hW
  refine pf_X2_43 (ws2 := [(a0, .inr (3, [.int (0 : Int32), .int (0 : Int32), .int (0 : Int32), .int (0 : Int32), .int (0 : Int32), .int (0 : Int32), .int (0 : Int32), .int (0 : Int32), .int (0 : Int32), .ref q1, .ref q2, .null, .null, .null, .null, .null]))] ++ [(q1, .inl (k.2.1.1 1, 251, .inr (.inl (fun _ => 0))))] ++ [(q2, .inl (k.2.1.1 0, 64, .inl (fun _ => 0)))]) E hW 0 rfl hnm rfl rfl (Nat.le_of_ble_eq_true rfl) dX2_init_63 rfl (fun H locs hW => ?_)
  refine k_aload_n E hl 0 dX2_init_66 rfl ?_
  refine nw_X2_47 E hW hA (by decide) (by decide) dX2_init_67 (fun q3 H hW => ?_)
  have hW : WD k A s.heap ([(a0, .inr (3, [.int (0 : Int32), .int (0 : Int32), .int (0 : Int32), .int (0 : Int32), .int (0 : Int32), .int (0 : Int32), .int (0 : Int32), .int (0 : Int32), .int (0 : Int32), .ref q1, .ref q2, .null, .null, .null, .null, .null]))] ++ [(q1, .inl (k.2.1.1 1, 251, .inr (.inl (fun _ => 0))))] ++ [(q2, .inl (k.2.1.1 0, 64, .inl (fun _ => 0)))] ++ [(q3, .inr (7, [.int 0, .null]))]) H _ := hW
  refine lv_dup E.hx E.hb dX2_init_70 rfl ?_
  refine lv_bipush (v := (8 : Int32)) E.hx E.hb dX2_init_71 bp_8 ?_
  refine lv_iconst (v := (5 : Int32)) E.hx E.hb dX2_init_73 ic_5 ?_
  refine k_callNew (As := [.int (8 : Int32), .int (5 : Int32)]) (rest := [.ref q3, .ref a0]) (c_X6_init l k q3 (8 : Int32) (5 : Int32) 40 (by decide) (by decide) (by decide) (by decide)) E il_X2_49 dX2_init_74 rfl hW hA hl rfl ⟨by decide, by decide⟩ ⟨by decide, by decide⟩ (Nat.le_of_ble_eq_true rfl) (fun u4 H locs _ hW => ?_)
  have hW : WD k A s.heap ([(a0, .inr (3, [.int (0 : Int32), .int (0 : Int32), .int (0 : Int32), .int (0 : Int32), .int (0 : Int32), .int (0 : Int32), .int (0 : Int32), .int (0 : Int32), .int (0 : Int32), .ref q1, .ref q2, .null, .null, .null, .null, .null]))] ++ [(q1, .inl (k.2.1.1 1, 251, .inr (.inl (fun _ => 0))))] ++ [(q2, .inl (k.2.1.1 0, 64, .inl (fun _ => 0)))] ++ wTable k (adr q3 u4) (5 : Int32) 40 (fun _ => 0)) H locs := hW
  refine pf_X2_52 (ws2 := [(a0, .inr (3, [.int (0 : Int32), .int (0 : Int32), .int (0 : Int32), .int (0 : Int32), .int (0 : Int32), .int (0 : Int32), .int (0 : Int32), .int (0 : Int32), .int (0 : Int32), .ref q1, .ref q2, .ref q3, .null, .null, .null, .null]))] ++ [(q1, .inl (k.2.1.1 1, 251, .inr (.inl (fun _ => 0))))] ++ [(q2, .inl (k.2.1.1 0, 64, .inl (fun _ => 0)))] ++ wTable k (adr q3 u4) (5 : Int32) 40 (fun _ => 0)) E hW 0 rfl hnm rfl rfl (Nat.le_of_ble_eq_true rfl) dX2_init_77 rfl (fun H locs hW => ?_)
  refine k_aload_n E hl 0 dX2_init_80 rfl ?_
  refine nw_X2_47 E hW hA (by decide) (by decide) dX2_init_81 (fun q5 H hW => ?_)
  have hW : WD k A s.heap ([(a0, .inr (3, [.int (0 : Int32), .int (0 : Int32), .int (0 : Int32), .int (0 : Int32), .int (0 : Int32), .int (0 : Int32), .int (0 : Int32), .int (0 : Int32), .int (0 : Int32), .ref q1, .ref q2, .ref q3, .null, .null, .null, .null]))] ++ [(q1, .inl (k.2.1.1 1, 251, .inr (.inl (fun _ => 0))))] ++ [(q2, .inl (k.2.1.1 0, 64, .inl (fun _ => 0)))] ++ wTable k (adr q3 u4) (5 : Int32) 40 (fun _ => 0) ++ [(q5, .inr (7, [.int 0, .null]))]) H _ := hW
  refine lv_dup E.hx E.hb dX2_init_84 rfl ?_
  refine lv_bipush (v := (80 : Int32)) E.hx E.hb dX2_init_85 bp_80 ?_
  refine lv_bipush (v := (8 : Int32)) E.hx E.hb dX2_init_87 bp_8 ?_
  refine k_callNew (As := [.int (80 : Int32), .int (8 : Int32)]) (rest := [.ref q5, .ref a0]) (c_X6_init l k q5 (80 : Int32) (8 : Int32) 640 (by decide) (by decide) (by decide) (by decide)) E il_X2_49 dX2_init_89 rfl hW hA hl rfl ⟨by decide, by decide⟩ ⟨by decide, by decide⟩ (Nat.le_of_ble_eq_true rfl) (fun u6 H locs _ hW => ?_)
  have hW : WD k A s.heap ([(a0, .inr (3, [.int (0 : Int32), .int (0 : Int32), .int (0 : Int32), .int (0 : Int32), .int (0 : Int32), .int (0 : Int32), .int (0 : Int32), .int (0 : Int32), .int (0 : Int32), .ref q1, .ref q2, .ref q3, .null, .null, .null, .null]))] ++ [(q1, .inl (k.2.1.1 1, 251, .inr (.inl (fun _ => 0))))] ++ [(q2, .inl (k.2.1.1 0, 64, .inl (fun _ => 0)))] ++ wTable k (adr q3 u4) (5 : Int32) 40 (fun _ => 0) ++ wTable k (adr q5 u6) (8 : Int32) 640 (fun _ => 0)) H locs := hW
  refine pf_X2_56 (ws2 := [(a0, .inr (3, [.int (0 : Int32), .int (0 : Int32), .int (0 : Int32), .int (0 : Int32), .int (0 : Int32), .int (0 : Int32), .int (0 : Int32), .int (0 : Int32), .int (0 : Int32), .ref q1, .ref q2, .ref q3, .ref q5, .null, .null, .null]))] ++ [(q1, .inl (k.2.1.1 1, 251, .inr (.inl (fun _ => 0))))] ++ [(q2, .inl (k.2.1.1 0, 64, .inl (fun _ => 0)))] ++ wTable k (adr q3 u4) (5 : Int32) 40 (fun _ => 0) ++ wTable k (adr q5 u6) (8 : Int32) 640 (fun _ => 0)) E hW 0 rfl hnm rfl rfl (Nat.le_of_ble_eq_true rfl) dX2_init_92 rfl (fun H locs hW => ?_)
  refine k_aload_n E hl 0 dX2_init_95 rfl ?_
  refine nw_X2_47 E hW hA (by decide) (by decide) dX2_init_96 (fun q7 H hW => ?_)
  have hW : WD k A s.heap ([(a0, .inr (3, [.int (0 : Int32), .int (0 : Int32), .int (0 : Int32), .int (0 : Int32), .int (0 : Int32), .int (0 : Int32), .int (0 : Int32), .int (0 : Int32), .int (0 : Int32), .ref q1, .ref q2, .ref q3, .ref q5, .null, .null, .null]))] ++ [(q1, .inl (k.2.1.1 1, 251, .inr (.inl (fun _ => 0))))] ++ [(q2, .inl (k.2.1.1 0, 64, .inl (fun _ => 0)))] ++ wTable k (adr q3 u4) (5 : Int32) 40 (fun _ => 0) ++ wTable k (adr q5 u6) (8 : Int32) 640 (fun _ => 0) ++ [(q7, .inr (7, [.int 0, .null]))]) H _ := hW
  refine lv_dup E.hx E.hb dX2_init_99 rfl ?_
  refine lv_bipush (v := (60 : Int32)) E.hx E.hb dX2_init_100 bp_60 ?_
  refine lv_bipush (v := (7 : Int32)) E.hx E.hb dX2_init_102 bp_7 ?_
  refine k_callNew (As := [.int (60 : Int32), .int (7 : Int32)]) (rest := [.ref q7, .ref a0]) (c_X6_init l k q7 (60 : Int32) (7 : Int32) 420 (by decide) (by decide) (by decide) (by decide)) E il_X2_49 dX2_init_104 rfl hW hA hl rfl ⟨by decide, by decide⟩ ⟨by decide, by decide⟩ (Nat.le_of_ble_eq_true rfl) (fun u8 H locs _ hW => ?_)
  have hW : WD k A s.heap ([(a0, .inr (3, [.int (0 : Int32), .int (0 : Int32), .int (0 : Int32), .int (0 : Int32), .int (0 : Int32), .int (0 : Int32), .int (0 : Int32), .int (0 : Int32), .int (0 : Int32), .ref q1, .ref q2, .ref q3, .ref q5, .null, .null, .null]))] ++ [(q1, .inl (k.2.1.1 1, 251, .inr (.inl (fun _ => 0))))] ++ [(q2, .inl (k.2.1.1 0, 64, .inl (fun _ => 0)))] ++ wTable k (adr q3 u4) (5 : Int32) 40 (fun _ => 0) ++ wTable k (adr q5 u6) (8 : Int32) 640 (fun _ => 0) ++ wTable k (adr q7 u8) (7 : Int32) 420 (fun _ => 0)) H locs := hW
  refine pf_X2_59 (ws2 := [(a0, .inr (3, [.int (0 : Int32), .int (0 : Int32), .int (0 : Int32), .int (0 : Int32), .int (0 : Int32), .int (0 : Int32), .int (0 : Int32), .int (0 : Int32), .int (0 : Int32), .ref q1, .ref q2, .ref q3, .ref q5, .ref q7, .null, .null]))] ++ [(q1, .inl (k.2.1.1 1, 251, .inr (.inl (fun _ => 0))))] ++ [(q2, .inl (k.2.1.1 0, 64, .inl (fun _ => 0)))] ++ wTable k (adr q3 u4) (5 : Int32) 40 (fun _ => 0) ++ wTable k (adr q5 u6) (8 : Int32) 640 (fun _ => 0) ++ wTable k (adr q7 u8) (7 : Int32) 420 (fun _ => 0)) E hW 0 rfl hnm rfl rfl (Nat.le_of_ble_eq_true rfl) dX2_init_107 rfl (fun H locs hW => ?_)
  refine k_aload_n E hl 0 dX2_init_110 rfl ?_
  refine nw_X2_47 E hW hA (by decide) (by decide) dX2_init_111 (fun q9 H hW => ?_)
  have hW : WD k A s.heap ([(a0, .inr (3, [.int (0 : Int32), .int (0 : Int32), .int (0 : Int32), .int (0 : Int32), .int (0 : Int32), .int (0 : Int32), .int (0 : Int32), .int (0 : Int32), .int (0 : Int32), .ref q1, .ref q2, .ref q3, .ref q5, .ref q7, .null, .null]))] ++ [(q1, .inl (k.2.1.1 1, 251, .inr (.inl (fun _ => 0))))] ++ [(q2, .inl (k.2.1.1 0, 64, .inl (fun _ => 0)))] ++ wTable k (adr q3 u4) (5 : Int32) 40 (fun _ => 0) ++ wTable k (adr q5 u6) (8 : Int32) 640 (fun _ => 0) ++ wTable k (adr q7 u8) (7 : Int32) 420 (fun _ => 0) ++ [(q9, .inr (7, [.int 0, .null]))]) H _ := hW
  refine lv_dup E.hx E.hb dX2_init_114 rfl ?_
  refine lv_bipush (v := (40 : Int32)) E.hx E.hb dX2_init_115 bp_40 ?_
  refine lv_bipush (v := (8 : Int32)) E.hx E.hb dX2_init_117 bp_8 ?_
  refine k_callNew (As := [.int (40 : Int32), .int (8 : Int32)]) (rest := [.ref q9, .ref a0]) (c_X6_init l k q9 (40 : Int32) (8 : Int32) 320 (by decide) (by decide) (by decide) (by decide)) E il_X2_49 dX2_init_119 rfl hW hA hl rfl ⟨by decide, by decide⟩ ⟨by decide, by decide⟩ (Nat.le_of_ble_eq_true rfl) (fun u10 H locs _ hW => ?_)
  have hW : WD k A s.heap ([(a0, .inr (3, [.int (0 : Int32), .int (0 : Int32), .int (0 : Int32), .int (0 : Int32), .int (0 : Int32), .int (0 : Int32), .int (0 : Int32), .int (0 : Int32), .int (0 : Int32), .ref q1, .ref q2, .ref q3, .ref q5, .ref q7, .null, .null]))] ++ [(q1, .inl (k.2.1.1 1, 251, .inr (.inl (fun _ => 0))))] ++ [(q2, .inl (k.2.1.1 0, 64, .inl (fun _ => 0)))] ++ wTable k (adr q3 u4) (5 : Int32) 40 (fun _ => 0) ++ wTable k (adr q5 u6) (8 : Int32) 640 (fun _ => 0) ++ wTable k (adr q7 u8) (7 : Int32) 420 (fun _ => 0) ++ wTable k (adr q9 u10) (8 : Int32) 320 (fun _ => 0)) H locs := hW
  refine pf_X2_62 (ws2 := [(a0, .inr (3, [.int (0 : Int32), .int (0 : Int32), .int (0 : Int32), .int (0 : Int32), .int (0 : Int32), .int (0 : Int32), .int (0 : Int32), .int (0 : Int32), .int (0 : Int32), .ref q1, .ref q2, .ref q3, .ref q5, .ref q7, .ref q9, .null]))] ++ [(q1, .inl (k.2.1.1 1, 251, .inr (.inl (fun _ => 0))))] ++ [(q2, .inl (k.2.1.1 0, 64, .inl (fun _ => 0)))] ++ wTable k (adr q3 u4) (5 : Int32) 40 (fun _ => 0) ++ wTable k (adr q5 u6) (8 : Int32) 640 (fun _ => 0) ++ wTable k (adr q7 u8) (7 : Int32) 420 (fun _ => 0) ++ wTable k (adr q9 u10) (8 : Int32) 320 (fun _ => 0)) E hW 0 rfl hnm rfl rfl (Nat.le_of_ble_eq_true rfl) dX2_init_122 rfl (fun H locs hW => ?_)
  refine k_aload_n E hl 0 dX2_init_125 rfl ?_
  refine lv_bipush (v := (60 : Int32)) E.hx E.hb dX2_init_126 bp_60 ?_
  refine k_newI (N := 60) E hW hA (by decide) (by decide) (by decide) (by decide) (by decide) dX2_init_128 (fun q11 H hW => ?_)
  have hW : WD k A s.heap ([(a0, .inr (3, [.int (0 : Int32), .int (0 : Int32), .int (0 : Int32), .int (0 : Int32), .int (0 : Int32), .int (0 : Int32), .int (0 : Int32), .int (0 : Int32), .int (0 : Int32), .ref q1, .ref q2, .ref q3, .ref q5, .ref q7, .ref q9, .null]))] ++ [(q1, .inl (k.2.1.1 1, 251, .inr (.inl (fun _ => 0))))] ++ [(q2, .inl (k.2.1.1 0, 64, .inl (fun _ => 0)))] ++ wTable k (adr q3 u4) (5 : Int32) 40 (fun _ => 0) ++ wTable k (adr q5 u6) (8 : Int32) 640 (fun _ => 0) ++ wTable k (adr q7 u8) (7 : Int32) 420 (fun _ => 0) ++ wTable k (adr q9 u10) (8 : Int32) 320 (fun _ => 0) ++ [(q11, .inl (k.2.1.1 0, 60, .inl (fun _ => 0)))]) H _ := hW
  refine pf_X2_65 (ws2 := [(a0, .inr (3, [.int (0 : Int32), .int (0 : Int32), .int (0 : Int32), .int (0 : Int32), .int (0 : Int32), .int (0 : Int32), .int (0 : Int32), .int (0 : Int32), .int (0 : Int32), .ref q1, .ref q2, .ref q3, .ref q5, .ref q7, .ref q9, .ref q11]))] ++ [(q1, .inl (k.2.1.1 1, 251, .inr (.inl (fun _ => 0))))] ++ [(q2, .inl (k.2.1.1 0, 64, .inl (fun _ => 0)))] ++ wTable k (adr q3 u4) (5 : Int32) 40 (fun _ => 0) ++ wTable k (adr q5 u6) (8 : Int32) 640 (fun _ => 0) ++ wTable k (adr q7 u8) (7 : Int32) 420 (fun _ => 0) ++ wTable k (adr q9 u10) (8 : Int32) 320 (fun _ => 0) ++ [(q11, .inl (k.2.1.1 0, 60, .inl (fun _ => 0)))]) E hW 0 rfl hnm rfl rfl (Nat.le_of_ble_eq_true rfl) dX2_init_130 rfl (fun H locs hW => ?_)
  exact hret (lst [q1, q2, q3, u4 0, q5, u6 0, q7, u8 0, q9, u10 0, q11]) _ _ _ _ _ _ hW trivial (by first | exact Nat.le_of_ble_eq_true rfl | exact Nat.zero_le _ | simp) (by first | exact Nat.le_of_ble_eq_true rfl | exact Nat.zero_le _ | simp) dX2_init_133
set_option maxHeartbeats 4000000 in
set_option maxRecDepth 100000 in
theorem c_X3_init (l : Launch) (k : KT) (hO : AOH k) (a0 : Nat)   : CG l k yX3_init cX3_init 1 none 1 1 8 12 [.ref a0] [(a0, .inr (4, [.null, .int 0, .int 0]))] (Qv k (fun u : Nat → Nat => wPast k (adr a0 u) (fun _ _ => 0) zPS) (fun _ => True)) := by
  refine CG.ofV (by decide) (Nat.le_of_ble_eq_true rfl) (fun p e s m args below meth c A Q E hnm hW hA hret ls hl => ?_)
  have hl : lv_has ls 1 [(0, .ref a0)] := hl
  refine k_aload_n E hl 0 dX3_init_0 rfl ?_
  refine k_objInit E hl tm_273 dX3_init_1 (by first | exact Nat.le_of_ble_eq_true rfl | exact Nat.zero_le _ | simp) (by first | exact Nat.le_of_ble_eq_true rfl | exact Nat.zero_le _ | simp) ?_
  refine k_aload_n E hl 0 dX3_init_4 rfl ?_
  refine lv_bipush (v := (8 : Int32)) E.hx E.hb dX3_init_5 bp_8 ?_
  refine k_newQ (N := 8) hO E hW hA (by decide) (by decide) (by decide) (by decide) (by decide) dX3_init_7 (fun q1 H hW => ?_)
  have hW : WD k A s.heap ([(a0, .inr (4, [.null, .int 0, .int 0]))] ++ [(q1, .inl (k.2.1.1 3, 8, .inr (.inr (.inr (.inr (fun _ => none))))))]) H _ := hW
  refine pf_X3_11 (ws2 := [(a0, .inr (4, [.ref q1, .int 0, .int 0]))] ++ [(q1, .inl (k.2.1.1 3, 8, .inr (.inr (.inr (.inr (fun _ => none))))))]) E hW 0 rfl hnm rfl rfl (Nat.le_of_ble_eq_true rfl) dX3_init_10 rfl (fun H locs hW => ?_)
  refine k_aload_n E hl 0 dX3_init_13 rfl ?_
  refine lv_iconst (v := (0 : Int32)) E.hx E.hb dX3_init_14 ic_0 ?_
  refine pf_X3_17 (ws2 := [(a0, .inr (4, [.ref q1, .int (0 : Int32), .int 0]))] ++ [(q1, .inl (k.2.1.1 3, 8, .inr (.inr (.inr (.inr (fun _ => none))))))]) E hW 0 rfl rfl rfl (Nat.le_of_ble_eq_true rfl) dX3_init_15 rfl (fun H locs hW => ?_)
  refine k_aload_n E hl 0 dX3_init_18 rfl ?_
  refine lv_iconst (v := (0 : Int32)) E.hx E.hb dX3_init_19 ic_0 ?_
  refine pf_X3_21 (ws2 := [(a0, .inr (4, [.ref q1, .int (0 : Int32), .int (0 : Int32)]))] ++ [(q1, .inl (k.2.1.1 3, 8, .inr (.inr (.inr (.inr (fun _ => none))))))]) E hW 0 rfl rfl rfl (Nat.le_of_ble_eq_true rfl) dX3_init_20 rfl (fun H locs hW => ?_)
  exact hret (lst [q1]) _ _ _ _ _ _ hW trivial (by first | exact Nat.le_of_ble_eq_true rfl | exact Nat.zero_le _ | simp) (by first | exact Nat.le_of_ble_eq_true rfl | exact Nat.zero_le _ | simp) dX3_init_23
set_option maxHeartbeats 4000000 in
set_option maxRecDepth 100000 in
theorem c_X4_init (l : Launch) (k : KT) (hE : EH k) (a0 : Nat) (xin : Nat) (xco : Nat)  : CG l k yX4_init cX4_init 3 none 3 3 66 64 [.ref a0, .ref xin, .ref xco] [(a0, .inr (5, [.null, .null, .null, .int 0, .int 0, .int 0, .int 0, .int 0, .null, .int 0, .int 0, .int 0]))] (Qv k (fun u : Nat → Nat => wReader k (fun _ => a0) xin xco (u 0) zRd ++ wRules k u zOS) (fun _ => True)) := by
  refine CG.ofV (by decide) (Nat.le_of_ble_eq_true rfl) (fun p e s m args below meth c A Q E hnm hW hA hret ls hl => ?_)
  have hl : lv_has ls 3 [(0, .ref a0), (1, .ref xin), (2, .ref xco)] := hl
  refine k_aload_n E hl 0 dX4_init_0 rfl ?_
  refine k_objInit E hl tm_225 dX4_init_1 (by first | exact Nat.le_of_ble_eq_true rfl | exact Nat.zero_le _ | simp) (by first | exact Nat.le_of_ble_eq_true rfl | exact Nat.zero_le _ | simp) ?_
  refine k_aload_n E hl 0 dX4_init_4 rfl ?_
  refine nw_X4_9 E hW hA (by decide) (by decide) dX4_init_5 (fun q1 H hW => ?_)
  have hW : WD k A s.heap ([(a0, .inr (5, [.null, .null, .null, .int 0, .int 0, .int 0, .int 0, .int 0, .null, .int 0, .int 0, .int 0]))] ++ [(q1, .inr (6, [.int 0, .int 0, .int 0, .int 0, .int 0, .int 0, .int 0, .null]))]) H _ := hW
  refine lv_dup E.hx E.hb dX4_init_8 rfl ?_
  refine k_callNewN (As := []) (rest := [.ref q1, .ref a0]) (c_X5_init l k q1) E il_X4_11 dX4_init_9 rfl hW hA hl rfl ⟨by decide, by decide⟩ ⟨by decide, by decide⟩ (Nat.le_of_ble_eq_true rfl) (fun u2 H locs _ hW => ?_)
  have hW : WD k A s.heap ([(a0, .inr (5, [.null, .null, .null, .int 0, .int 0, .int 0, .int 0, .int 0, .null, .int 0, .int 0, .int 0]))] ++ wRules k (adr q1 u2) zOS) H locs := hW
  refine pf_X4_12 (ws2 := [(a0, .inr (5, [.null, .null, .ref q1, .int 0, .int 0, .int 0, .int 0, .int 0, .null, .int 0, .int 0, .int 0]))] ++ wRules k (adr q1 u2) zOS) E hW 0 rfl hnm rfl rfl (Nat.le_of_ble_eq_true rfl) dX4_init_12 rfl (fun H locs hW => ?_)
  refine k_aload_n E hl 0 dX4_init_15 rfl ?_
  refine lv_iconst (v := (0 : Int32)) E.hx E.hb dX4_init_16 ic_0 ?_
  refine pf_X4_18 (ws2 := [(a0, .inr (5, [.null, .null, .ref q1, .int (0 : Int32), .int 0, .int 0, .int 0, .int 0, .null, .int 0, .int 0, .int 0]))] ++ wRules k (adr q1 u2) zOS) E hW 0 rfl rfl rfl (Nat.le_of_ble_eq_true rfl) dX4_init_17 rfl (fun H locs hW => ?_)
  refine k_aload_n E hl 0 dX4_init_20 rfl ?_
  refine lv_iconst (v := (-1 : Int32)) E.hx E.hb dX4_init_21 ic_m1 ?_
  refine pf_X4_22 (ws2 := [(a0, .inr (5, [.null, .null, .ref q1, .int (0 : Int32), .int (-1 : Int32), .int 0, .int 0, .int 0, .null, .int 0, .int 0, .int 0]))] ++ wRules k (adr q1 u2) zOS) E hW 0 rfl rfl rfl (Nat.le_of_ble_eq_true rfl) dX4_init_22 rfl (fun H locs hW => ?_)
  refine k_aload_n E hl 0 dX4_init_25 rfl ?_
  refine lv_iconst (v := (0 : Int32)) E.hx E.hb dX4_init_26 ic_0 ?_
  refine pf_X4_25 (ws2 := [(a0, .inr (5, [.null, .null, .ref q1, .int (0 : Int32), .int (-1 : Int32), .int (0 : Int32), .int 0, .int 0, .null, .int 0, .int 0, .int 0]))] ++ wRules k (adr q1 u2) zOS) E hW 0 rfl rfl rfl (Nat.le_of_ble_eq_true rfl) dX4_init_27 rfl (fun H locs hW => ?_)
  refine k_aload_n E hl 0 dX4_init_30 rfl ?_
  refine lv_iconst (v := (0 : Int32)) E.hx E.hb dX4_init_31 ic_0 ?_
  refine pf_X4_28 (ws2 := [(a0, .inr (5, [.null, .null, .ref q1, .int (0 : Int32), .int (-1 : Int32), .int (0 : Int32), .int (0 : Int32), .int 0, .null, .int 0, .int 0, .int 0]))] ++ wRules k (adr q1 u2) zOS) E hW 0 rfl rfl rfl (Nat.le_of_ble_eq_true rfl) dX4_init_32 rfl (fun H locs hW => ?_)
  refine k_aload_n E hl 0 dX4_init_35 rfl ?_
  refine lv_iconst (v := (0 : Int32)) E.hx E.hb dX4_init_36 ic_0 ?_
  refine pf_X4_31 (ws2 := [(a0, .inr (5, [.null, .null, .ref q1, .int (0 : Int32), .int (-1 : Int32), .int (0 : Int32), .int (0 : Int32), .int (0 : Int32), .null, .int 0, .int 0, .int 0]))] ++ wRules k (adr q1 u2) zOS) E hW 0 rfl rfl rfl (Nat.le_of_ble_eq_true rfl) dX4_init_37 rfl (fun H locs hW => ?_)
  refine k_aload_n E hl 0 dX4_init_40 rfl ?_
  refine k_wconst hE E hW (n := "OTHER") (0 : Int32) (by decide) rfl tm_228 dX4_init_41 ?_
  refine pf_X4_40 (ws2 := [(a0, .inr (5, [.null, .null, .ref q1, .int (0 : Int32), .int (-1 : Int32), .int (0 : Int32), .int (0 : Int32), .int (0 : Int32), .ref (wordAd k (0 : Int32)), .int 0, .int 0, .int 0]))] ++ wRules k (adr q1 u2) zOS) E hW 0 rfl rfl rfl (Nat.le_of_ble_eq_true rfl) dX4_init_44 rfl (fun H locs hW => ?_)
  refine k_aload_n E hl 0 dX4_init_47 rfl ?_
  refine lv_iconst (v := (0 : Int32)) E.hx E.hb dX4_init_48 ic_0 ?_
  refine pf_X4_43 (ws2 := [(a0, .inr (5, [.null, .null, .ref q1, .int (0 : Int32), .int (-1 : Int32), .int (0 : Int32), .int (0 : Int32), .int (0 : Int32), .ref (wordAd k (0 : Int32)), .int (0 : Int32), .int 0, .int 0]))] ++ wRules k (adr q1 u2) zOS) E hW 0 rfl rfl rfl (Nat.le_of_ble_eq_true rfl) dX4_init_49 rfl (fun H locs hW => ?_)
  refine k_aload_n E hl 0 dX4_init_52 rfl ?_
  refine lv_iconst (v := (0 : Int32)) E.hx E.hb dX4_init_53 ic_0 ?_
  refine pf_X4_46 (ws2 := [(a0, .inr (5, [.null, .null, .ref q1, .int (0 : Int32), .int (-1 : Int32), .int (0 : Int32), .int (0 : Int32), .int (0 : Int32), .ref (wordAd k (0 : Int32)), .int (0 : Int32), .int (0 : Int32), .int 0]))] ++ wRules k (adr q1 u2) zOS) E hW 0 rfl rfl rfl (Nat.le_of_ble_eq_true rfl) dX4_init_54 rfl (fun H locs hW => ?_)
  refine k_aload_n E hl 0 dX4_init_57 rfl ?_
  refine lv_iconst (v := (0 : Int32)) E.hx E.hb dX4_init_58 ic_0 ?_
  refine pf_X4_49 (ws2 := [(a0, .inr (5, [.null, .null, .ref q1, .int (0 : Int32), .int (-1 : Int32), .int (0 : Int32), .int (0 : Int32), .int (0 : Int32), .ref (wordAd k (0 : Int32)), .int (0 : Int32), .int (0 : Int32), .int (0 : Int32)]))] ++ wRules k (adr q1 u2) zOS) E hW 0 rfl rfl rfl (Nat.le_of_ble_eq_true rfl) dX4_init_59 rfl (fun H locs hW => ?_)
  refine k_aload_n E hl 0 dX4_init_62 rfl ?_
  refine k_aload_n E hl 1 dX4_init_63 rfl ?_
  refine pf_X4_52 (ws2 := [(a0, .inr (5, [.ref xin, .null, .ref q1, .int (0 : Int32), .int (-1 : Int32), .int (0 : Int32), .int (0 : Int32), .int (0 : Int32), .ref (wordAd k (0 : Int32)), .int (0 : Int32), .int (0 : Int32), .int (0 : Int32)]))] ++ wRules k (adr q1 u2) zOS) E hW 0 rfl hnm rfl rfl (Nat.le_of_ble_eq_true rfl) dX4_init_64 rfl (fun H locs hW => ?_)
  refine k_aload_n E hl 0 dX4_init_67 rfl ?_
  refine k_aload_n E hl 2 dX4_init_68 rfl ?_
  refine pf_X4_56 (ws2 := [(a0, .inr (5, [.ref xin, .ref xco, .ref q1, .int (0 : Int32), .int (-1 : Int32), .int (0 : Int32), .int (0 : Int32), .int (0 : Int32), .ref (wordAd k (0 : Int32)), .int (0 : Int32), .int (0 : Int32), .int (0 : Int32)]))] ++ wRules k (adr q1 u2) zOS) E hW 0 rfl hnm rfl rfl (Nat.le_of_ble_eq_true rfl) dX4_init_69 rfl (fun H locs hW => ?_)
  exact hret (adr q1 u2) _ _ _ _ _ _ hW trivial (by first | exact Nat.le_of_ble_eq_true rfl | exact Nat.zero_le _ | simp) (by first | exact Nat.le_of_ble_eq_true rfl | exact Nat.zero_le _ | simp) dX4_init_72
def f_X8_init (n : Nat) : Option (OS × OS) :=
  bnd (f_X5_begin n zOS (4 : Int32)) (fun (b1 : OS) =>
  bnd (f_X2_begin n zOS (4 : Int32)) (fun (b2 : OS) =>
  some (b1, b2)))
set_option maxHeartbeats 4000000 in
set_option maxRecDepth 100000 in
theorem c_X8_init (n : Nat) (l : Launch) (k : KT) (hE : EH k) (hO : AOH k) (a0 : Nat) (res : OS × OS) (hf : f_X8_init n = some res) : CG l k yX8_init cX8_init 1 none 4 37 5421 86 [.ref a0] [(a0, .inr (8, [.null, .null, .null, .null, .null, .null, .null, .null, .int 0]))] (Qv k (fun u : Nat → Nat → Nat => wMCo k (fun _ => a0) (u 0 0) (u 1 0) (u 2 0) (u 3 0) (u 4 0) (u 5 0) (u 7 0) .null zOS ++ wBytes k (u 0) 600 zOS ++ wBytes k (u 1) 1024 zOS ++ wRules k (u 2) res.1 ++ wCourt k (u 3) res.2 ++ wCourt k (u 4) zOS ++ wReader k (u 5) (u 0 0) (u 4 0) (u 6 0) zRd ++ wRules k (u 6) zOS ++ wPast k (u 7) (fun _ _ => 0) zPS) (fun _ => True)) := by
  refine CG.ofV (by decide) (Nat.le_of_ble_eq_true rfl) (fun p e s m args below meth c A Q E hnm hW hA hret ls hl => ?_)
  have hl : lv_has ls 1 [(0, .ref a0)] := hl
  unfold f_X8_init at hf
  refine k_aload_n E hl 0 dX8_init_0 rfl ?_
  refine k_objInit E hl tm_67 dX8_init_1 (by first | exact Nat.le_of_ble_eq_true rfl | exact Nat.zero_le _ | simp) (by first | exact Nat.le_of_ble_eq_true rfl | exact Nat.zero_le _ | simp) ?_
  refine k_aload_n E hl 0 dX8_init_4 rfl ?_
  refine nw_X8_9 E hW hA (by decide) (by decide) dX8_init_5 (fun q1 H hW => ?_)
  have hW : WD k A s.heap ([(a0, .inr (8, [.null, .null, .null, .null, .null, .null, .null, .null, .int 0]))] ++ [(q1, .inr (2, [.null, .int 0]))]) H _ := hW
  refine lv_dup E.hx E.hb dX8_init_8 rfl ?_
  refine lv_sipush (v := (600 : Int32)) E.hx E.hb dX8_init_9 sp_600 ?_
  refine k_callNew (As := [.int (600 : Int32)]) (rest := [.ref q1, .ref a0]) (c_X1_init l k q1 (600 : Int32) 600 (by decide) (by decide) (by decide) (by decide)) E il_X8_11 dX8_init_12 rfl hW hA hl rfl ⟨by decide, by decide⟩ ⟨by decide, by decide⟩ (Nat.le_of_ble_eq_true rfl) (fun u2 H locs _ hW => ?_)
  have hW : WD k A s.heap ([(a0, .inr (8, [.null, .null, .null, .null, .null, .null, .null, .null, .int 0]))] ++ wBytes k (adr q1 u2) 600 zOS) H locs := hW
  refine pf_X8_14 (ws2 := [(a0, .inr (8, [.ref q1, .null, .null, .null, .null, .null, .null, .null, .int 0]))] ++ wBytes k (adr q1 u2) 600 zOS) E hW 0 rfl hnm rfl rfl (Nat.le_of_ble_eq_true rfl) dX8_init_15 rfl (fun H locs hW => ?_)
  refine k_aload_n E hl 0 dX8_init_18 rfl ?_
  refine nw_X8_9 E hW hA (by decide) (by decide) dX8_init_19 (fun q3 H hW => ?_)
  have hW : WD k A s.heap ([(a0, .inr (8, [.ref q1, .null, .null, .null, .null, .null, .null, .null, .int 0]))] ++ wBytes k (adr q1 u2) 600 zOS ++ [(q3, .inr (2, [.null, .int 0]))]) H _ := hW
  refine lv_dup E.hx E.hb dX8_init_22 rfl ?_
  refine lv_sipush (v := (1024 : Int32)) E.hx E.hb dX8_init_23 sp_1024 ?_
  refine k_callNew (As := [.int (1024 : Int32)]) (rest := [.ref q3, .ref a0]) (c_X1_init l k q3 (1024 : Int32) 1024 (by decide) (by decide) (by decide) (by decide)) E il_X8_11 dX8_init_26 rfl hW hA hl rfl ⟨by decide, by decide⟩ ⟨by decide, by decide⟩ (Nat.le_of_ble_eq_true rfl) (fun u4 H locs _ hW => ?_)
  have hW : WD k A s.heap ([(a0, .inr (8, [.ref q1, .null, .null, .null, .null, .null, .null, .null, .int 0]))] ++ wBytes k (adr q1 u2) 600 zOS ++ wBytes k (adr q3 u4) 1024 zOS) H locs := hW
  refine pf_X8_18 (ws2 := [(a0, .inr (8, [.ref q1, .ref q3, .null, .null, .null, .null, .null, .null, .int 0]))] ++ wBytes k (adr q1 u2) 600 zOS ++ wBytes k (adr q3 u4) 1024 zOS) E hW 0 rfl hnm rfl rfl (Nat.le_of_ble_eq_true rfl) dX8_init_29 rfl (fun H locs hW => ?_)
  refine k_aload_n E hl 0 dX8_init_32 rfl ?_
  refine nw_X8_21 E hW hA (by decide) (by decide) dX8_init_33 (fun q5 H hW => ?_)
  have hW : WD k A s.heap ([(a0, .inr (8, [.ref q1, .ref q3, .null, .null, .null, .null, .null, .null, .int 0]))] ++ wBytes k (adr q1 u2) 600 zOS ++ wBytes k (adr q3 u4) 1024 zOS ++ [(q5, .inr (6, [.int 0, .int 0, .int 0, .int 0, .int 0, .int 0, .int 0, .null]))]) H _ := hW
  refine lv_dup E.hx E.hb dX8_init_36 rfl ?_
  refine k_callNewN (As := []) (rest := [.ref q5, .ref a0]) (c_X5_init l k q5) E il_X8_23 dX8_init_37 rfl hW hA hl rfl ⟨by decide, by decide⟩ ⟨by decide, by decide⟩ (Nat.le_of_ble_eq_true rfl) (fun u6 H locs _ hW => ?_)
  have hW : WD k A s.heap ([(a0, .inr (8, [.ref q1, .ref q3, .null, .null, .null, .null, .null, .null, .int 0]))] ++ wBytes k (adr q1 u2) 600 zOS ++ wBytes k (adr q3 u4) 1024 zOS ++ wRules k (adr q5 u6) zOS) H locs := hW
  refine pf_X8_24 (ws2 := [(a0, .inr (8, [.ref q1, .ref q3, .ref q5, .null, .null, .null, .null, .null, .int 0]))] ++ wBytes k (adr q1 u2) 600 zOS ++ wBytes k (adr q3 u4) 1024 zOS ++ wRules k (adr q5 u6) zOS) E hW 0 rfl hnm rfl rfl (Nat.le_of_ble_eq_true rfl) dX8_init_40 rfl (fun H locs hW => ?_)
  refine k_aload_n E hl 0 dX8_init_43 rfl ?_
  refine nw_X8_28 E hW hA (by decide) (by decide) dX8_init_44 (fun q7 H hW => ?_)
  have hW : WD k A s.heap ([(a0, .inr (8, [.ref q1, .ref q3, .ref q5, .null, .null, .null, .null, .null, .int 0]))] ++ wBytes k (adr q1 u2) 600 zOS ++ wBytes k (adr q3 u4) 1024 zOS ++ wRules k (adr q5 u6) zOS ++ [(q7, .inr (3, [.int 0, .int 0, .int 0, .int 0, .int 0, .int 0, .int 0, .int 0, .int 0, .null, .null, .null, .null, .null, .null, .null]))]) H _ := hW
  refine lv_dup E.hx E.hb dX8_init_47 rfl ?_
  refine k_callNewN (As := []) (rest := [.ref q7, .ref a0]) (c_X2_init l k q7) E il_X8_30 dX8_init_48 rfl hW hA hl rfl ⟨by decide, by decide⟩ ⟨by decide, by decide⟩ (Nat.le_of_ble_eq_true rfl) (fun u8 H locs _ hW => ?_)
  have hW : WD k A s.heap ([(a0, .inr (8, [.ref q1, .ref q3, .ref q5, .null, .null, .null, .null, .null, .int 0]))] ++ wBytes k (adr q1 u2) 600 zOS ++ wBytes k (adr q3 u4) 1024 zOS ++ wRules k (adr q5 u6) zOS ++ wCourt k (adr q7 u8) zOS) H locs := hW
  refine pf_X8_31 (ws2 := [(a0, .inr (8, [.ref q1, .ref q3, .ref q5, .ref q7, .null, .null, .null, .null, .int 0]))] ++ wBytes k (adr q1 u2) 600 zOS ++ wBytes k (adr q3 u4) 1024 zOS ++ wRules k (adr q5 u6) zOS ++ wCourt k (adr q7 u8) zOS) E hW 0 rfl hnm rfl rfl (Nat.le_of_ble_eq_true rfl) dX8_init_51 rfl (fun H locs hW => ?_)
  refine k_aload_n E hl 0 dX8_init_54 rfl ?_
  refine nw_X8_28 E hW hA (by decide) (by decide) dX8_init_55 (fun q9 H hW => ?_)
  have hW : WD k A s.heap ([(a0, .inr (8, [.ref q1, .ref q3, .ref q5, .ref q7, .null, .null, .null, .null, .int 0]))] ++ wBytes k (adr q1 u2) 600 zOS ++ wBytes k (adr q3 u4) 1024 zOS ++ wRules k (adr q5 u6) zOS ++ wCourt k (adr q7 u8) zOS ++ [(q9, .inr (3, [.int 0, .int 0, .int 0, .int 0, .int 0, .int 0, .int 0, .int 0, .int 0, .null, .null, .null, .null, .null, .null, .null]))]) H _ := hW
  refine lv_dup E.hx E.hb dX8_init_58 rfl ?_
  refine k_callNewN (As := []) (rest := [.ref q9, .ref a0]) (c_X2_init l k q9) E il_X8_30 dX8_init_59 rfl hW hA hl rfl ⟨by decide, by decide⟩ ⟨by decide, by decide⟩ (Nat.le_of_ble_eq_true rfl) (fun u10 H locs _ hW => ?_)
  have hW : WD k A s.heap ([(a0, .inr (8, [.ref q1, .ref q3, .ref q5, .ref q7, .null, .null, .null, .null, .int 0]))] ++ wBytes k (adr q1 u2) 600 zOS ++ wBytes k (adr q3 u4) 1024 zOS ++ wRules k (adr q5 u6) zOS ++ wCourt k (adr q7 u8) zOS ++ wCourt k (adr q9 u10) zOS) H locs := hW
  refine pf_X8_35 (ws2 := [(a0, .inr (8, [.ref q1, .ref q3, .ref q5, .ref q7, .ref q9, .null, .null, .null, .int 0]))] ++ wBytes k (adr q1 u2) 600 zOS ++ wBytes k (adr q3 u4) 1024 zOS ++ wRules k (adr q5 u6) zOS ++ wCourt k (adr q7 u8) zOS ++ wCourt k (adr q9 u10) zOS) E hW 0 rfl hnm rfl rfl (Nat.le_of_ble_eq_true rfl) dX8_init_62 rfl (fun H locs hW => ?_)
  refine k_aload_n E hl 0 dX8_init_65 rfl ?_
  refine nw_X8_38 E hW hA (by decide) (by decide) dX8_init_66 (fun q11 H hW => ?_)
  have hW : WD k A s.heap ([(a0, .inr (8, [.ref q1, .ref q3, .ref q5, .ref q7, .ref q9, .null, .null, .null, .int 0]))] ++ wBytes k (adr q1 u2) 600 zOS ++ wBytes k (adr q3 u4) 1024 zOS ++ wRules k (adr q5 u6) zOS ++ wCourt k (adr q7 u8) zOS ++ wCourt k (adr q9 u10) zOS ++ [(q11, .inr (5, [.null, .null, .null, .int 0, .int 0, .int 0, .int 0, .int 0, .null, .int 0, .int 0, .int 0]))]) H _ := hW
  refine lv_dup E.hx E.hb dX8_init_69 rfl ?_
  refine k_aload_n E hl 0 dX8_init_70 rfl ?_
  refine gf_X8_14 E hW 0 rfl rfl dX8_init_71 ?_
  refine k_aload_n E hl 0 dX8_init_74 rfl ?_
  refine gf_X8_35 E hW 0 rfl rfl dX8_init_75 ?_
  refine k_callNew (As := [.ref q1, .ref q9]) (rest := [.ref q11, .ref a0]) (c_X4_init l k hE q11 q1 q9) E il_X8_40 dX8_init_78 rfl hW hA hl rfl ⟨by decide, by decide⟩ ⟨by decide, by decide⟩ (Nat.le_of_ble_eq_true rfl) (fun u12 H locs _ hW => ?_)
  have hW : WD k A s.heap ([(a0, .inr (8, [.ref q1, .ref q3, .ref q5, .ref q7, .ref q9, .null, .null, .null, .int 0]))] ++ wBytes k (adr q1 u2) 600 zOS ++ wBytes k (adr q3 u4) 1024 zOS ++ wRules k (adr q5 u6) zOS ++ wCourt k (adr q7 u8) zOS ++ wCourt k (adr q9 u10) zOS ++ wReader k (fun _ => q11) q1 q9 (u12 0) zRd ++ wRules k u12 zOS) H locs := by rw [List.append_assoc]; exact hW
  refine pf_X8_43 (ws2 := [(a0, .inr (8, [.ref q1, .ref q3, .ref q5, .ref q7, .ref q9, .ref q11, .null, .null, .int 0]))] ++ wBytes k (adr q1 u2) 600 zOS ++ wBytes k (adr q3 u4) 1024 zOS ++ wRules k (adr q5 u6) zOS ++ wCourt k (adr q7 u8) zOS ++ wCourt k (adr q9 u10) zOS ++ wReader k (fun _ => q11) q1 q9 (u12 0) zRd ++ wRules k u12 zOS) E hW 0 rfl hnm rfl rfl (Nat.le_of_ble_eq_true rfl) dX8_init_81 rfl (fun H locs hW => ?_)
  refine k_aload_n E hl 0 dX8_init_84 rfl ?_
  refine nw_X8_47 E hW hA (by decide) (by decide) dX8_init_85 (fun q13 H hW => ?_)
  have hW : WD k A s.heap ([(a0, .inr (8, [.ref q1, .ref q3, .ref q5, .ref q7, .ref q9, .ref q11, .null, .null, .int 0]))] ++ wBytes k (adr q1 u2) 600 zOS ++ wBytes k (adr q3 u4) 1024 zOS ++ wRules k (adr q5 u6) zOS ++ wCourt k (adr q7 u8) zOS ++ wCourt k (adr q9 u10) zOS ++ wReader k (fun _ => q11) q1 q9 (u12 0) zRd ++ wRules k u12 zOS ++ [(q13, .inr (4, [.null, .int 0, .int 0]))]) H _ := hW
  refine lv_dup E.hx E.hb dX8_init_88 rfl ?_
  refine k_callNewN (As := []) (rest := [.ref q13, .ref a0]) (c_X3_init l k hO q13) E il_X8_49 dX8_init_89 rfl hW hA hl rfl ⟨by decide, by decide⟩ ⟨by decide, by decide⟩ (Nat.le_of_ble_eq_true rfl) (fun u14 H locs _ hW => ?_)
  have hW : WD k A s.heap ([(a0, .inr (8, [.ref q1, .ref q3, .ref q5, .ref q7, .ref q9, .ref q11, .null, .null, .int 0]))] ++ wBytes k (adr q1 u2) 600 zOS ++ wBytes k (adr q3 u4) 1024 zOS ++ wRules k (adr q5 u6) zOS ++ wCourt k (adr q7 u8) zOS ++ wCourt k (adr q9 u10) zOS ++ wReader k (fun _ => q11) q1 q9 (u12 0) zRd ++ wRules k u12 zOS ++ wPast k (adr q13 u14) (fun _ _ => 0) zPS) H locs := hW
  refine pf_X8_50 (ws2 := [(a0, .inr (8, [.ref q1, .ref q3, .ref q5, .ref q7, .ref q9, .ref q11, .ref q13, .null, .int 0]))] ++ wBytes k (adr q1 u2) 600 zOS ++ wBytes k (adr q3 u4) 1024 zOS ++ wRules k (adr q5 u6) zOS ++ wCourt k (adr q7 u8) zOS ++ wCourt k (adr q9 u10) zOS ++ wReader k (fun _ => q11) q1 q9 (u12 0) zRd ++ wRules k u12 zOS ++ wPast k (adr q13 u14) (fun _ _ => 0) zPS) E hW 0 rfl hnm rfl rfl (Nat.le_of_ble_eq_true rfl) dX8_init_92 rfl (fun H locs hW => ?_)
  refine k_aload_n E hl 0 dX8_init_95 rfl ?_
  refine lv_null E.hx E.hb dX8_init_96 ?_
  refine pf_X8_54 (ws2 := [(a0, .inr (8, [.ref q1, .ref q3, .ref q5, .ref q7, .ref q9, .ref q11, .ref q13, .null, .int 0]))] ++ wBytes k (adr q1 u2) 600 zOS ++ wBytes k (adr q3 u4) 1024 zOS ++ wRules k (adr q5 u6) zOS ++ wCourt k (adr q7 u8) zOS ++ wCourt k (adr q9 u10) zOS ++ wReader k (fun _ => q11) q1 q9 (u12 0) zRd ++ wRules k u12 zOS ++ wPast k (adr q13 u14) (fun _ _ => 0) zPS) E hW 0 rfl rfl rfl (Nat.le_of_ble_eq_true rfl) dX8_init_97 rfl (fun H locs hW => ?_)
  refine k_aload_n E hl 0 dX8_init_100 rfl ?_
  refine lv_iconst (v := (0 : Int32)) E.hx E.hb dX8_init_101 ic_0 ?_
  refine pf_X8_57 (ws2 := [(a0, .inr (8, [.ref q1, .ref q3, .ref q5, .ref q7, .ref q9, .ref q11, .ref q13, .null, .int (0 : Int32)]))] ++ wBytes k (adr q1 u2) 600 zOS ++ wBytes k (adr q3 u4) 1024 zOS ++ wRules k (adr q5 u6) zOS ++ wCourt k (adr q7 u8) zOS ++ wCourt k (adr q9 u10) zOS ++ wReader k (fun _ => q11) q1 q9 (u12 0) zRd ++ wRules k u12 zOS ++ wPast k (adr q13 u14) (fun _ _ => 0) zPS) E hW 0 rfl rfl rfl (Nat.le_of_ble_eq_true rfl) dX8_init_102 rfl (fun H locs hW => ?_)
  refine k_aload_n E hl 0 dX8_init_105 rfl ?_
  refine gf_X8_24 E hW 0 rfl rfl dX8_init_106 ?_
  refine k_wconst hE E hW (n := "PAGES") (1 : Int32) (by decide) rfl tm_287 dX8_init_109 ?_
  refine k_wusual hE E hW (by unfold vp_in; decide) tm_1227 dX8_init_112 ?_
  refine k_topi (y := (4 : Int32)) (by decide) ?_
  obtain ⟨b115, hg, hf⟩ := ob hf
  refine k_callVv (As := [.int (4 : Int32)]) (rest := []) (ws2 := fun u => [(a0, .inr (8, [.ref q1, .ref q3, .ref q5, .ref q7, .ref q9, .ref q11, .ref q13, .null, .int (0 : Int32)]))] ++ wBytes k (adr q1 u2) 600 zOS ++ wBytes k (adr q3 u4) 1024 zOS ++ wRules k (adr q5 u6) u ++ wCourt k (adr q7 u8) zOS ++ wCourt k (adr q9 u10) zOS ++ wReader k (fun _ => q11) q1 q9 (u12 0) zRd ++ wRules k u12 zOS ++ wPast k (adr q13 u14) (fun _ _ => 0) zPS) (c_X5_begin n l k hE (adr q5 u6) zOS (4 : Int32) b115 hg) E vl_X8_71 dX8_init_115 rfl [5, 6, 7] 6 5 hW hA hl rfl rfl rfl rfl ⟨by decide, by decide⟩ ⟨by decide, by decide⟩ (Nat.le_of_ble_eq_true rfl) rfl (fun _ => rfl) (fun _ => rfl) (fun u H locs hp hW => ?_)
  cases hp
  have hW : WD k A s.heap ([(a0, .inr (8, [.ref q1, .ref q3, .ref q5, .ref q7, .ref q9, .ref q11, .ref q13, .null, .int (0 : Int32)]))] ++ wBytes k (adr q1 u2) 600 zOS ++ wBytes k (adr q3 u4) 1024 zOS ++ wRules k (adr q5 u6) b115 ++ wCourt k (adr q7 u8) zOS ++ wCourt k (adr q9 u10) zOS ++ wReader k (fun _ => q11) q1 q9 (u12 0) zRd ++ wRules k u12 zOS ++ wPast k (adr q13 u14) (fun _ _ => 0) zPS) H _ := hW
  refine k_aload_n E hl 0 dX8_init_118 rfl ?_
  refine gf_X8_31 E hW 0 rfl rfl dX8_init_119 ?_
  refine k_wconst hE E hW (n := "PAGES") (1 : Int32) (by decide) rfl tm_287 dX8_init_122 ?_
  refine k_wusual hE E hW (by unfold vp_in; decide) tm_1227 dX8_init_125 ?_
  refine k_topi (y := (4 : Int32)) (by decide) ?_
  obtain ⟨b128, hg, hf⟩ := ob hf
  refine k_callVv (As := [.int (4 : Int32)]) (rest := []) (ws2 := fun u => [(a0, .inr (8, [.ref q1, .ref q3, .ref q5, .ref q7, .ref q9, .ref q11, .ref q13, .null, .int (0 : Int32)]))] ++ wBytes k (adr q1 u2) 600 zOS ++ wBytes k (adr q3 u4) 1024 zOS ++ wRules k (adr q5 u6) b115 ++ wCourt k (adr q7 u8) u ++ wCourt k (adr q9 u10) zOS ++ wReader k (fun _ => q11) q1 q9 (u12 0) zRd ++ wRules k u12 zOS ++ wPast k (adr q13 u14) (fun _ _ => 0) zPS) (c_X2_begin n l k (adr q7 u8) zOS (4 : Int32) b128 hg) E vl_X8_74 dX8_init_128 rfl [8, 9, 10, 11, 12, 13, 14, 15, 16, 17, 18, 19] 3 8 hW hA hl rfl rfl rfl rfl ⟨by decide, by decide⟩ ⟨by decide, by decide⟩ (Nat.le_of_ble_eq_true rfl) rfl (fun _ => rfl) (fun _ => rfl) (fun u H locs hp hW => ?_)
  cases hp
  have hW : WD k A s.heap ([(a0, .inr (8, [.ref q1, .ref q3, .ref q5, .ref q7, .ref q9, .ref q11, .ref q13, .null, .int (0 : Int32)]))] ++ wBytes k (adr q1 u2) 600 zOS ++ wBytes k (adr q3 u4) 1024 zOS ++ wRules k (adr q5 u6) b115 ++ wCourt k (adr q7 u8) b128 ++ wCourt k (adr q9 u10) zOS ++ wReader k (fun _ => q11) q1 q9 (u12 0) zRd ++ wRules k u12 zOS ++ wPast k (adr q13 u14) (fun _ _ => 0) zPS) H _ := hW
  cases hf; exact hret (fun i => match i with | 0 => adr q1 u2 | 1 => adr q3 u4 | 2 => adr q5 u6 | 3 => adr q7 u8 | 4 => adr q9 u10 | 5 => (fun _ => q11) | 6 => u12 | 7 => adr q13 u14 | _ => lst []) _ _ _ _ _ _ hW trivial (by decide) (by decide) dX8_init_131
