theorem tm_139 : (Jvm.Cond.instanceMethod ({ cls := "java/lang/Object", name := "<init>", desc := "()V" } : Jvm.MethodName)) ∈ lw_tbl := List.mem_of_getElem? (i := 139) (by decide +kernel)
theorem tm_140 : (Jvm.Cond.code ({ cls := "java/lang/Object", name := "<init>", desc := "()V" } : Jvm.MethodName) object_method_1_code (1 : Nat) (Option.none : Option Jvm.ClassFile.FieldType)) ∈ lw_tbl := List.mem_of_getElem? (i := 140) (by decide +kernel)
theorem tm_180 : (Jvm.Cond.arrayClass Jvm.ClassFile.FieldType.int) ∈ lw_tbl := List.mem_of_getElem? (i := 180) (by decide +kernel)
theorem tm_290 : (Jvm.Cond.arrayClass Jvm.ClassFile.FieldType.long) ∈ lw_tbl := List.mem_of_getElem? (i := 290) (by decide +kernel)
theorem tm_159 : (Jvm.Cond.arrayClass Jvm.ClassFile.FieldType.byte) ∈ lw_tbl := List.mem_of_getElem? (i := 159) (by decide +kernel)
theorem tm_347 : (Jvm.Cond.classLink "MemoryCourt$Past" (9 : Nat) "MemoryCourt$Court") ∈ lw_tbl := List.mem_of_getElem? (i := 347) (by decide +kernel)
/-! things that are made: rows of new objects and arrays, contracts of the constructors -/
def adr (a0 : Nat) (u : Nat → Nat) : Nat → Nat
  | 0 => a0
  | j + 1 => u j
def lst (l : List Nat) : Nat → Nat := fun j => l.getD j 0
def zOS : OS := ((fun _ => 0), (fun _ _ => 0), (fun _ _ => 0), (fun _ => 0))
def zPS : PS := ((fun _ => 0), (0, fun _ => zOS))
def zRd : OS := ((fun j => if j = 4 then -1 else 0), (fun _ _ => 0), (fun _ _ => 0), (fun _ => 0))
def zMo : OS := ((fun j => if j = 17 ∨ j = 19 ∨ j = 32 then -1 else 0), (fun _ _ => 0), (fun _ _ => 0), (fun _ => 0))
def AOH (k : KT) : Prop := ∀ (A : Nat → Prop) (U : State) (H : Heap), k.2.2 A U H → va_AO "MemoryCourt$Court" U
def IL (own : String) (index : Nat) (y : MethodName) (bytes : ByteArray) (mx : Nat) (n : Nat) : Prop :=
  (Cond.methodLink own index y ∈ lw_tbl ∧ Cond.instanceMethod y ∈ lw_tbl ∧ Cond.initialized y.cls ∈ lw_tbl ∧ Cond.code y bytes mx none ∈ lw_tbl) ∧ y.name = "<init>" ∧ y.cls ≠ "java/lang/invoke/MethodHandle" ∧ y.cls ≠ "java/lang/invoke/VarHandle" ∧ (parseMethodDescriptor y.desc).map (fun d => d.parameters.length) = some n
def ILN (own host : String) (index : Nat) (y : MethodName) (bytes : ByteArray) (mx : Nat) (n : Nat) : Prop :=
  (Cond.methodLinkNest own index y host ∈ lw_tbl ∧ Cond.instanceMethod y ∈ lw_tbl ∧ Cond.initialized y.cls ∈ lw_tbl ∧ Cond.code y bytes mx none ∈ lw_tbl) ∧ y.name = "<init>" ∧ y.cls ≠ "java/lang/invoke/MethodHandle" ∧ y.cls ≠ "java/lang/invoke/VarHandle" ∧ (parseMethodDescriptor y.desc).map (fun d => d.parameters.length) = some n
section KNW
variable {p : Program} {l : Launch} {e : Env} {R : Room} {s : State} {m : MethodId} {args : Array Value} {below : List Frame} {meth : Method} {c : Code} {H : Heap} {locs : List Loc} {cells slots : Nat} {Q : State → Prop}
variable {cc : ByteArray} {pc nL : Nat} {ls : Array Slot} {rest : List Value} {k : KT} {A : Nat → Prop} {ws : va_W} {own : String} {a : Nat}
theorem IL.cw {index mx n fr mc ms loc : Nat} {y : MethodName} {bytes : ByteArray} (h : IL own index y bytes mx n) (E : E0 p s m c cc nL own k A) (hR : fr + 1 ≤ R.frames ∧ 8 + (mx + 11) + loc ≤ R.locals) :
    CallB R s args own index y bytes mx none [Cond.code y bytes mx none] { frames := fr, cells := mc, slots := ms, locals := loc } mc ms n ∧ y.name = "<init>" ∧ (Cond.instanceMethod y).before args s = true := by
  obtain ⟨⟨h1, h2, h4, h5⟩, hi, hd⟩ := h
  exact ⟨callB_of (Ts := lw_tbl.filter tbOK) n E.fix.2.2.2.2 (fun w hw => by rw [List.mem_singleton.mp hw]; exact ⟨List.mem_filter.mpr ⟨h5, rfl⟩, Or.inl rfl⟩) rfl rfl rfl (E.w h4 rfl) (E.w h1 rfl) hd hR, hi, E.w h2 rfl⟩
theorem ILN.cw {host : String} {index mx n fr mc ms loc : Nat} {y : MethodName} {bytes : ByteArray} (h : ILN own host index y bytes mx n) (E : E0 p s m c cc nL own k A) (hR : fr + 1 ≤ R.frames ∧ 8 + (mx + 11) + loc ≤ R.locals) :
    va_CN R s args own index y host bytes mx none [Cond.code y bytes mx none] { frames := fr, cells := mc, slots := ms, locals := loc } mc ms n ∧ y.name = "<init>" ∧ (Cond.instanceMethod y).before args s = true := by
  obtain ⟨⟨h1, h2, h4, h5⟩, hi, hd⟩ := h
  exact ⟨va_cnB (Ts := lw_tbl.filter tbOK) n E.fix.2.2.2.2 (fun w hw => by rw [List.mem_singleton.mp hw]; exact ⟨List.mem_filter.mpr ⟨h5, rfl⟩, Or.inl rfl⟩) rfl rfl rfl (va_Nw.of rfl (E.w (args := args) h1 rfl)) (E.w h4 rfl) hd hR, hi, E.w h2 rfl⟩
theorem k_callNew {index mx n fr mc ms loc : Nat} {y : MethodName} {bytes : ByteArray} {S : Type} {W1 : S → va_W} {post : S → Prop} {As : List Value} {lv : List (Nat × Value)} {st0 : List Value} {b : Nat} {e0 : va_E}
    (hM : CG l k y bytes mx none fr mc ms loc (.ref b :: As) [(b, e0)] (Qv k W1 post)) (E : E0 p s m c cc nL own k A) (hV : IL own index y bytes mx n) (hdg : decode cc pc = .ok (.invokespecial index, 3)) (hst : st0 = As.reverse ++ .ref b :: rest)
    (hW : WD k A s.heap (ws ++ [(b, e0)]) H locs) (hA : ∀ q : Nat, s.heap.size ≤ q → A q) (hl : lv_has ls nL lv) (hn : As.length = n) (hR : fr + 1 ≤ R.frames ∧ 8 + (mx + 11) + loc ≤ R.locals) (hroom : cells + mc ≤ R.cells ∧ slots + ms ≤ R.slots) (hcat : (rest.map fun v => v.category).sum ≤ 8)
    (q : ∀ (u : S) (H1 : Heap) (locs1 : List Loc), post u → WD k A s.heap (ws ++ W1 u) H1 locs1 → W p l e R s m args below meth c H1 locs1 (cells + mc) (slots + ms) Q (F0 m (pc + 3) ls rest)) : W p l e R s m args below meth c H locs cells slots Q (F0 m pc ls st0) := by
  subst hst
  obtain ⟨hfree, hpre⟩ := pre_callG (cx := []) E hW hA [] rfl rfl
  refine va_callv (va_runI (As := As) (rest := rest) E.fix (hM H.size) (hV.cw E hR) ⟨Bpre.blind, fun U hU hw => ⟨rfl, hpre U hU hw⟩⟩ rfl hn hl.1 rfl (lv_room hcat) hdg hroom) hW.2.2 (fun q _ h => hfree q h) hfree (fun u t H1 locs1 ht hvm hp hB hz hk hS => ?_)
  obtain ⟨hP1, hD1⟩ := hB
  rw [ht] at hP1
  obtain ⟨g1, g2⟩ := call_frameG (cx := []) (cx1 := []) hW.1 hW.2.1 [] rfl rfl hfree hk hP1 hD1
  exact q u H1 locs1 hp ⟨g1, g2, hS⟩
theorem k_callNewN {host : String} {index mx n fr mc ms loc : Nat} {y : MethodName} {bytes : ByteArray} {S : Type} {W1 : S → va_W} {post : S → Prop} {As : List Value} {lv : List (Nat × Value)} {st0 : List Value} {b : Nat} {e0 : va_E}
    (hM : CG l k y bytes mx none fr mc ms loc (.ref b :: As) [(b, e0)] (Qv k W1 post)) (E : E0 p s m c cc nL own k A) (hV : ILN own host index y bytes mx n) (hdg : decode cc pc = .ok (.invokespecial index, 3)) (hst : st0 = As.reverse ++ .ref b :: rest)
    (hW : WD k A s.heap (ws ++ [(b, e0)]) H locs) (hA : ∀ q : Nat, s.heap.size ≤ q → A q) (hl : lv_has ls nL lv) (hn : As.length = n) (hR : fr + 1 ≤ R.frames ∧ 8 + (mx + 11) + loc ≤ R.locals) (hroom : cells + mc ≤ R.cells ∧ slots + ms ≤ R.slots) (hcat : (rest.map fun v => v.category).sum ≤ 8)
    (q : ∀ (u : S) (H1 : Heap) (locs1 : List Loc), post u → WD k A s.heap (ws ++ W1 u) H1 locs1 → W p l e R s m args below meth c H1 locs1 (cells + mc) (slots + ms) Q (F0 m (pc + 3) ls rest)) : W p l e R s m args below meth c H locs cells slots Q (F0 m pc ls st0) := by
  subst hst
  obtain ⟨hfree, hpre⟩ := pre_callG (cx := []) E hW hA [] rfl rfl
  refine va_callv (va_runIN (As := As) (rest := rest) E.fix (hM H.size) (hV.cw E hR) ⟨Bpre.blind, fun U hU hw => ⟨rfl, hpre U hU hw⟩⟩ rfl hn hl.1 rfl (lv_room hcat) hdg hroom) hW.2.2 (fun q _ h => hfree q h) hfree (fun u t H1 locs1 ht hvm hp hB hz hk hS => ?_)
  obtain ⟨hP1, hD1⟩ := hB
  rw [ht] at hP1
  obtain ⟨g1, g2⟩ := call_frameG (cx := []) (cx1 := []) hW.1 hW.2.1 [] rfl rfl hfree hk hP1 hD1
  exact q u H1 locs1 hp ⟨g1, g2, hS⟩
theorem k_objInit {idx : Nat} (E : E0 p s m c cc nL own k A) {lv : List (Nat × Value)} (hl : lv_has ls nL lv) (t : Cond.methodLink own idx Lib.objectInit ∈ lw_tbl) (hdg : decode cc pc = .ok (.invokespecial idx, 3)) (hf : 1 ≤ R.frames) (hlo : 12 ≤ R.locals)
    (q : W p l e R s m args below meth c H locs cells slots Q (F0 m (pc + 3) ls [])) : W p l e R s m args below meth c H locs cells slots Q (F0 m pc ls [.ref a]) :=
  W.objInit E.hx E.hb E.ho (E.w t rfl) (E.w tm_139 rfl) (E.w tm_140 rfl) rfl (hl.1.trans E.hml.symm) rfl hdg hf hlo q
theorem k_newI (E : E0 p s m c cc nL own k A) (hW : WD k A s.heap ws H locs) (hA : ∀ q : Nat, s.heap.size ≤ q → A q) {n : Int32} {N : Nat} (hn : ¬ n < 0) (hN : n.toNatClampNeg = N) (hb : N ≤ 100000) (hc : cells + 1 ≤ R.cells) (hs : slots + N ≤ R.slots) (hdg : decode cc pc = .ok (.newarray .int, 2))
    (q : ∀ (x : Nat) (H1 : Heap), WD k A s.heap (ws ++ [(x, .inl (k.2.1.1 0, N, .inl (fun _ => 0)))]) H1 locs → W p l e R s m args below meth c H1 locs (cells + 1) (slots + N) Q (F0 m (pc + 2) ls (.ref x :: rest))) : W p l e R s m args below meth c H locs cells slots Q (F0 m pc ls (.int n :: rest)) := by
  refine va_newa (atype := .int) (a0 := (N, .inl (fun _ => 0))) E.hx E.hb (E.w tm_180 rfl) rfl E.hK hW.1 hW.2.1 hW.2.2 hA (fun cA => rfl) hn hN (Nat.le_trans (Nat.mul_le_mul_right _ hb) (by decide)) hc hs hdg (fun x cA H1 hK1 h1 h2 h3 => ?_)
  have hcA : cA = k.2.1.1 0 := Option.some.inj ((hK1.2 4 (cA, .int) rfl).2.symm.trans (E.hK.2 0 (k.2.1.1 0, .int) rfl).2)
  subst hcA
  exact q x H1 ⟨h1, h2, h3⟩
theorem k_newJ (E : E0 p s m c cc nL own k A) (hW : WD k A s.heap ws H locs) (hA : ∀ q : Nat, s.heap.size ≤ q → A q) {n : Int32} {N : Nat} (hn : ¬ n < 0) (hN : n.toNatClampNeg = N) (hb : N ≤ 100000) (hc : cells + 1 ≤ R.cells) (hs : slots + N ≤ R.slots) (hdg : decode cc pc = .ok (.newarray .long, 2))
    (q : ∀ (x : Nat) (H1 : Heap), WD k A s.heap (ws ++ [(x, .inl (k.2.1.1 1, N, .inr (.inl (fun _ => 0))))]) H1 locs → W p l e R s m args below meth c H1 locs (cells + 1) (slots + N) Q (F0 m (pc + 2) ls (.ref x :: rest))) : W p l e R s m args below meth c H locs cells slots Q (F0 m pc ls (.int n :: rest)) := by
  refine va_newa (atype := .long) (a0 := (N, .inr (.inl (fun _ => 0)))) E.hx E.hb (E.w tm_290 rfl) rfl E.hK hW.1 hW.2.1 hW.2.2 hA (fun cA => rfl) hn hN (Nat.le_trans (Nat.mul_le_mul_right _ hb) (by decide)) hc hs hdg (fun x cA H1 hK1 h1 h2 h3 => ?_)
  have hcA : cA = k.2.1.1 1 := Option.some.inj ((hK1.2 4 (cA, .long) rfl).2.symm.trans (E.hK.2 1 (k.2.1.1 1, .long) rfl).2)
  subst hcA
  exact q x H1 ⟨h1, h2, h3⟩
theorem k_newB (E : E0 p s m c cc nL own k A) (hW : WD k A s.heap ws H locs) (hA : ∀ q : Nat, s.heap.size ≤ q → A q) {n : Int32} {N : Nat} (hn : ¬ n < 0) (hN : n.toNatClampNeg = N) (hb : N ≤ 100000) (hc : cells + 1 ≤ R.cells) (hs : slots + N ≤ R.slots) (hdg : decode cc pc = .ok (.newarray .byte, 2))
    (q : ∀ (x : Nat) (H1 : Heap), WD k A s.heap (ws ++ [(x, .inl (k.2.1.1 2, N, .inl (fun _ => 0)))]) H1 locs → W p l e R s m args below meth c H1 locs (cells + 1) (slots + N) Q (F0 m (pc + 2) ls (.ref x :: rest))) : W p l e R s m args below meth c H locs cells slots Q (F0 m pc ls (.int n :: rest)) := by
  refine va_newa (atype := .byte) (a0 := (N, .inl (fun _ => 0))) E.hx E.hb (E.w tm_159 rfl) rfl E.hK hW.1 hW.2.1 hW.2.2 hA (fun cA => rfl) hn hN (Nat.le_trans (Nat.mul_le_mul_right _ hb) (by decide)) hc hs hdg (fun x cA H1 hK1 h1 h2 h3 => ?_)
  have hcA : cA = k.2.1.1 2 := Option.some.inj ((hK1.2 4 (cA, .byte) rfl).2.symm.trans (E.hK.2 2 (k.2.1.1 2, .byte) rfl).2)
  subst hcA
  exact q x H1 ⟨h1, h2, h3⟩
theorem k_newQ (hO : AOH k) (E : E0 p s m c cc nL RX3 k A) (hW : WD k A s.heap ws H locs) (hA : ∀ q : Nat, s.heap.size ≤ q → A q) {n : Int32} {N : Nat} (hn : ¬ n < 0) (hN : n.toNatClampNeg = N) (hb : N ≤ 100000) (hc : cells + 1 ≤ R.cells) (hs : slots + N ≤ R.slots) (hdg : decode cc pc = .ok (.anewarray 9, 3))
    (q : ∀ (x : Nat) (H1 : Heap), WD k A s.heap (ws ++ [(x, .inl (k.2.1.1 3, N, .inr (.inr (.inr (.inr (fun _ => none))))))]) H1 locs → W p l e R s m args below meth c H1 locs (cells + 1) (slots + N) Q (F0 m (pc + 3) ls (.ref x :: rest))) : W p l e R s m args below meth c H locs cells slots Q (F0 m pc ls (.int n :: rest)) := by
  refine va_newq E.hx E.hb E.ho (E.w tm_347 rfl) (hO A s s.heap E.sf) E.hK hW.1 hW.2.1 hW.2.2 hA hn hN (Nat.le_trans (Nat.mul_le_mul_right _ hb) (by decide)) hc hs hdg (fun x cA H1 hK1 h1 h2 h3 => ?_)
  obtain ⟨_, _, _, _, _, z1⟩ := (hK1.2 4 (cA, .object "MemoryCourt$Court") rfl).2
  obtain ⟨_, _, _, _, _, z2⟩ := (E.hK.2 3 (k.2.1.1 3, .object "MemoryCourt$Court") rfl).2
  have hcA : cA = k.2.1.1 3 := Option.some.inj (z1.symm.trans z2)
  subst hcA
  exact q x H1 ⟨h1, h2, h3⟩
end KNW
theorem tm_146 : (Jvm.Cond.methodLink "MemoryCourt$Bytes" (3 : Nat) ({ cls := "java/lang/Object", name := "<init>", desc := "()V" } : Jvm.MethodName)) ∈ lw_tbl := List.mem_of_getElem? (i := 146) (by decide +kernel)
theorem tm_147 : (Jvm.Cond.methodLink "MemoryCourt$Bytes" (15 : Nat) ({ cls := "java/lang/Math", name := "max", desc := "(II)I" } : Jvm.MethodName)) ∈ lw_tbl := List.mem_of_getElem? (i := 147) (by decide +kernel)
theorem tm_171 : (Jvm.Cond.methodLink "MemoryCourt$Table" (1 : Nat) ({ cls := "java/lang/Object", name := "<init>", desc := "()V" } : Jvm.MethodName)) ∈ lw_tbl := List.mem_of_getElem? (i := 171) (by decide +kernel)
theorem tm_172 : (Jvm.Cond.methodLink "MemoryCourt$Table" (13 : Nat) ({ cls := "java/lang/Math", name := "max", desc := "(II)I" } : Jvm.MethodName)) ∈ lw_tbl := List.mem_of_getElem? (i := 172) (by decide +kernel)
theorem tm_165 : (Jvm.Cond.methodLink "MemoryCourt$Rules" (3 : Nat) ({ cls := "java/lang/Object", name := "<init>", desc := "()V" } : Jvm.MethodName)) ∈ lw_tbl := List.mem_of_getElem? (i := 165) (by decide +kernel)
theorem tm_166 : (Jvm.Cond.classLink "MemoryCourt$Rules" (33 : Nat) "MemoryCourt$Table") ∈ lw_tbl := List.mem_of_getElem? (i := 166) (by decide +kernel)
theorem tm_167 : (Jvm.Cond.instantiable "MemoryCourt$Table" (2 : Nat)) ∈ lw_tbl := List.mem_of_getElem? (i := 167) (by decide +kernel)
theorem tm_168 : (Jvm.Cond.methodLink "MemoryCourt$Rules" (35 : Nat) ({ cls := "MemoryCourt$Table", name := "<init>", desc := "(II)V" } : Jvm.MethodName)) ∈ lw_tbl := List.mem_of_getElem? (i := 168) (by decide +kernel)
theorem tm_169 : (Jvm.Cond.instanceMethod ({ cls := "MemoryCourt$Table", name := "<init>", desc := "(II)V" } : Jvm.MethodName)) ∈ lw_tbl := List.mem_of_getElem? (i := 169) (by decide +kernel)
theorem tm_170 : (Jvm.Cond.code ({ cls := "MemoryCourt$Table", name := "<init>", desc := "(II)V" } : Jvm.MethodName) prog_8_method_1_code (3 : Nat) (Option.none : Option Jvm.ClassFile.FieldType)) ∈ lw_tbl := List.mem_of_getElem? (i := 170) (by decide +kernel)
theorem tm_223 : (Jvm.Cond.methodLink "MemoryCourt$Court" (3 : Nat) ({ cls := "java/lang/Object", name := "<init>", desc := "()V" } : Jvm.MethodName)) ∈ lw_tbl := List.mem_of_getElem? (i := 223) (by decide +kernel)
theorem tm_224 : (Jvm.Cond.classLink "MemoryCourt$Court" (47 : Nat) "MemoryCourt$Table") ∈ lw_tbl := List.mem_of_getElem? (i := 224) (by decide +kernel)
theorem tm_225 : (Jvm.Cond.methodLink "MemoryCourt$Court" (49 : Nat) ({ cls := "MemoryCourt$Table", name := "<init>", desc := "(II)V" } : Jvm.MethodName)) ∈ lw_tbl := List.mem_of_getElem? (i := 225) (by decide +kernel)
theorem tm_346 : (Jvm.Cond.methodLink "MemoryCourt$Past" (3 : Nat) ({ cls := "java/lang/Object", name := "<init>", desc := "()V" } : Jvm.MethodName)) ∈ lw_tbl := List.mem_of_getElem? (i := 346) (by decide +kernel)
theorem tm_349 : (Jvm.Cond.fieldLink "MemoryCourt$Past" (11 : Nat) "MemoryCourt$Past" "courts" "[LMemoryCourt$Court;") ∈ lw_tbl := List.mem_of_getElem? (i := 349) (by decide +kernel)
theorem tm_350 : (Jvm.Cond.fieldLink "MemoryCourt$Past" (17 : Nat) "MemoryCourt$Past" "next" "I") ∈ lw_tbl := List.mem_of_getElem? (i := 350) (by decide +kernel)
theorem tm_296 : (Jvm.Cond.methodLink "MemoryCourt$Reader" (3 : Nat) ({ cls := "java/lang/Object", name := "<init>", desc := "()V" } : Jvm.MethodName)) ∈ lw_tbl := List.mem_of_getElem? (i := 296) (by decide +kernel)
theorem tm_297 : (Jvm.Cond.classLink "MemoryCourt$Reader" (9 : Nat) "MemoryCourt$Rules") ∈ lw_tbl := List.mem_of_getElem? (i := 297) (by decide +kernel)
theorem tm_161 : (Jvm.Cond.instantiable "MemoryCourt$Rules" (8 : Nat)) ∈ lw_tbl := List.mem_of_getElem? (i := 161) (by decide +kernel)
theorem tm_298 : (Jvm.Cond.methodLinkNest "MemoryCourt$Reader" (11 : Nat) ({ cls := "MemoryCourt$Rules", name := "<init>", desc := "()V" } : Jvm.MethodName) "MemoryCourt") ∈ lw_tbl := List.mem_of_getElem? (i := 298) (by decide +kernel)
theorem tm_163 : (Jvm.Cond.instanceMethod ({ cls := "MemoryCourt$Rules", name := "<init>", desc := "()V" } : Jvm.MethodName)) ∈ lw_tbl := List.mem_of_getElem? (i := 163) (by decide +kernel)
theorem tm_164 : (Jvm.Cond.code ({ cls := "MemoryCourt$Rules", name := "<init>", desc := "()V" } : Jvm.MethodName) prog_7_method_1_code (1 : Nat) (Option.none : Option Jvm.ClassFile.FieldType)) ∈ lw_tbl := List.mem_of_getElem? (i := 164) (by decide +kernel)
theorem tm_138 : (Jvm.Cond.methodLink "MemoryCourt" (3 : Nat) ({ cls := "java/lang/Object", name := "<init>", desc := "()V" } : Jvm.MethodName)) ∈ lw_tbl := List.mem_of_getElem? (i := 138) (by decide +kernel)
theorem tm_141 : (Jvm.Cond.classLink "MemoryCourt" (9 : Nat) "MemoryCourt$Bytes") ∈ lw_tbl := List.mem_of_getElem? (i := 141) (by decide +kernel)
theorem tm_142 : (Jvm.Cond.instantiable "MemoryCourt$Bytes" (2 : Nat)) ∈ lw_tbl := List.mem_of_getElem? (i := 142) (by decide +kernel)
theorem tm_143 : (Jvm.Cond.methodLink "MemoryCourt" (11 : Nat) ({ cls := "MemoryCourt$Bytes", name := "<init>", desc := "(I)V" } : Jvm.MethodName)) ∈ lw_tbl := List.mem_of_getElem? (i := 143) (by decide +kernel)
theorem tm_144 : (Jvm.Cond.instanceMethod ({ cls := "MemoryCourt$Bytes", name := "<init>", desc := "(I)V" } : Jvm.MethodName)) ∈ lw_tbl := List.mem_of_getElem? (i := 144) (by decide +kernel)
theorem tm_145 : (Jvm.Cond.code ({ cls := "MemoryCourt$Bytes", name := "<init>", desc := "(I)V" } : Jvm.MethodName) prog_3_method_1_code (2 : Nat) (Option.none : Option Jvm.ClassFile.FieldType)) ∈ lw_tbl := List.mem_of_getElem? (i := 145) (by decide +kernel)
theorem tm_160 : (Jvm.Cond.classLink "MemoryCourt" (21 : Nat) "MemoryCourt$Rules") ∈ lw_tbl := List.mem_of_getElem? (i := 160) (by decide +kernel)
theorem tm_162 : (Jvm.Cond.methodLinkNest "MemoryCourt" (23 : Nat) ({ cls := "MemoryCourt$Rules", name := "<init>", desc := "()V" } : Jvm.MethodName) "MemoryCourt") ∈ lw_tbl := List.mem_of_getElem? (i := 162) (by decide +kernel)
theorem tm_218 : (Jvm.Cond.classLink "MemoryCourt" (28 : Nat) "MemoryCourt$Court") ∈ lw_tbl := List.mem_of_getElem? (i := 218) (by decide +kernel)
theorem tm_219 : (Jvm.Cond.instantiable "MemoryCourt$Court" (16 : Nat)) ∈ lw_tbl := List.mem_of_getElem? (i := 219) (by decide +kernel)
theorem tm_220 : (Jvm.Cond.methodLinkNest "MemoryCourt" (30 : Nat) ({ cls := "MemoryCourt$Court", name := "<init>", desc := "()V" } : Jvm.MethodName) "MemoryCourt") ∈ lw_tbl := List.mem_of_getElem? (i := 220) (by decide +kernel)
theorem tm_221 : (Jvm.Cond.instanceMethod ({ cls := "MemoryCourt$Court", name := "<init>", desc := "()V" } : Jvm.MethodName)) ∈ lw_tbl := List.mem_of_getElem? (i := 221) (by decide +kernel)
theorem tm_222 : (Jvm.Cond.code ({ cls := "MemoryCourt$Court", name := "<init>", desc := "()V" } : Jvm.MethodName) prog_4_method_1_code (1 : Nat) (Option.none : Option Jvm.ClassFile.FieldType)) ∈ lw_tbl := List.mem_of_getElem? (i := 222) (by decide +kernel)
theorem tm_291 : (Jvm.Cond.classLink "MemoryCourt" (38 : Nat) "MemoryCourt$Reader") ∈ lw_tbl := List.mem_of_getElem? (i := 291) (by decide +kernel)
theorem tm_292 : (Jvm.Cond.instantiable "MemoryCourt$Reader" (12 : Nat)) ∈ lw_tbl := List.mem_of_getElem? (i := 292) (by decide +kernel)
theorem tm_293 : (Jvm.Cond.methodLink "MemoryCourt" (40 : Nat) ({ cls := "MemoryCourt$Reader", name := "<init>", desc := "(LMemoryCourt$Bytes;LMemoryCourt$Court;)V" } : Jvm.MethodName)) ∈ lw_tbl := List.mem_of_getElem? (i := 293) (by decide +kernel)
theorem tm_294 : (Jvm.Cond.instanceMethod ({ cls := "MemoryCourt$Reader", name := "<init>", desc := "(LMemoryCourt$Bytes;LMemoryCourt$Court;)V" } : Jvm.MethodName)) ∈ lw_tbl := List.mem_of_getElem? (i := 294) (by decide +kernel)
theorem tm_295 : (Jvm.Cond.code ({ cls := "MemoryCourt$Reader", name := "<init>", desc := "(LMemoryCourt$Bytes;LMemoryCourt$Court;)V" } : Jvm.MethodName) prog_6_method_1_code (3 : Nat) (Option.none : Option Jvm.ClassFile.FieldType)) ∈ lw_tbl := List.mem_of_getElem? (i := 295) (by decide +kernel)
theorem tm_341 : (Jvm.Cond.classLink "MemoryCourt" (47 : Nat) "MemoryCourt$Past") ∈ lw_tbl := List.mem_of_getElem? (i := 341) (by decide +kernel)
theorem tm_342 : (Jvm.Cond.instantiable "MemoryCourt$Past" (3 : Nat)) ∈ lw_tbl := List.mem_of_getElem? (i := 342) (by decide +kernel)
theorem tm_343 : (Jvm.Cond.methodLinkNest "MemoryCourt" (49 : Nat) ({ cls := "MemoryCourt$Past", name := "<init>", desc := "()V" } : Jvm.MethodName) "MemoryCourt") ∈ lw_tbl := List.mem_of_getElem? (i := 343) (by decide +kernel)
theorem tm_344 : (Jvm.Cond.instanceMethod ({ cls := "MemoryCourt$Past", name := "<init>", desc := "()V" } : Jvm.MethodName)) ∈ lw_tbl := List.mem_of_getElem? (i := 344) (by decide +kernel)
theorem tm_345 : (Jvm.Cond.code ({ cls := "MemoryCourt$Past", name := "<init>", desc := "()V" } : Jvm.MethodName) prog_5_method_1_code (1 : Nat) (Option.none : Option Jvm.ClassFile.FieldType)) ∈ lw_tbl := List.mem_of_getElem? (i := 345) (by decide +kernel)
theorem tm_397 : (Jvm.Cond.fieldLink "MemoryCourt" (54 : Nat) "MemoryCourt" "saved" "LMemoryCourt$Court;") ∈ lw_tbl := List.mem_of_getElem? (i := 397) (by decide +kernel)
theorem tm_360 : (Jvm.Cond.fieldLink "MemoryCourt" (61 : Nat) "MemoryCourt$Word" "PAGES" "LMemoryCourt$Word;") ∈ lw_tbl := List.mem_of_getElem? (i := 360) (by decide +kernel)
theorem tm_1982 : (Jvm.Cond.fieldLinkNest "MemoryCourt" (67 : Nat) "MemoryCourt$Word" "usual" "I" "MemoryCourt") ∈ lw_tbl := List.mem_of_getElem? (i := 1982) (by decide +kernel)
theorem tm_362 : (Jvm.Cond.methodLink "MemoryCourt" (71 : Nat) ({ cls := "MemoryCourt$Rules", name := "begin", desc := "(I)V" } : Jvm.MethodName)) ∈ lw_tbl := List.mem_of_getElem? (i := 362) (by decide +kernel)
theorem tm_376 : (Jvm.Cond.methodLink "MemoryCourt" (74 : Nat) ({ cls := "MemoryCourt$Court", name := "begin", desc := "(I)V" } : Jvm.MethodName)) ∈ lw_tbl := List.mem_of_getElem? (i := 376) (by decide +kernel)
theorem tm_1301 : (Jvm.Cond.methodLink "MemoryCourtModel" (1 : Nat) ({ cls := "java/lang/Object", name := "<init>", desc := "()V" } : Jvm.MethodName)) ∈ lw_tbl := List.mem_of_getElem? (i := 1301) (by decide +kernel)
theorem sp_251 : (Int16.ofInt (251)).toInt32 = (251 : Int32) := by decide
theorem bp_80 : (Int8.ofInt (80)).toInt32 = (80 : Int32) := by decide
theorem sp_1024 : (Int16.ofInt (1024)).toInt32 = (1024 : Int32) := by decide
theorem sp_14768 : (Int16.ofInt (14768)).toInt32 = (14768 : Int32) := by decide
theorem sp_1000 : (Int16.ofInt (1000)).toInt32 = (1000 : Int32) := by decide
theorem pf_X1_21 {p : Program} {l : Launch} {e : Env} {R : Room} {s : State} {m : MethodId} {args : Array Value} {below : List Frame} {meth : Method} {c : Code} {H : Heap} {locs : List Loc} {cells slots : Nat} {Q : State → Prop} {cc : ByteArray} {pc nL : Nat} {ls : Array Slot} {rest : List Value} {k : KT} {A : Nat → Prop} {ws ws2 : va_W} {H0 : Heap} {a : Nat} (E : E0 p s m c cc nL RX1 k A) (hW : WD k A H0 ws H locs) (q0 : Nat) {fs : List Value} (he : ws[q0]? = some (a, .inr (0, fs))) {v : Value} (hin : meth.name = "<init>") (hn : narrow (tyX1 0) v = v) (hfit : fits (tyX1 0) v = true) (hl : 0 < fs.length) (hdg : decode cc pc = .ok (.putfield 21, 3)) (hws : ws.set q0 (a, .inr (0, fs.set 0 v)) = ws2) (q : ∀ (H1 : Heap) (locs1 : List Loc), WD k A H0 ws2 H1 locs1 → W p l e R s m args below meth c H1 locs1 cells slots Q (F0 m (pc + 3) ls rest)) : W p l e R s m args below meth c H locs cells slots Q (F0 m pc ls (v :: .ref a :: rest)) := by
  subst hws
  exact va_putF (C := RX1) (T := TX1) (N := 2) (ci := 0) (ty := tyX1 0) E.hx E.hb (Ts := wsX10) (fun w hw => E.w (inX1 w hw) (tbl_laysX1 w hw)) (fun _ h => h) tyX1 tyX1_ok nmX1 E.ho E.hK hW.1 hW.2.1 hW.2.2 q0 he rfl 0 (by decide) (E.w tm_150 rfl) (fun _ h => h) rfl hin rfl (tyX1_ok 0 (by decide)) hn hfit hl hdg (fun H1 locs1 h1 h2 h3 => q H1 locs1 ⟨h1, h2, h3⟩)
theorem pf_X6_7 {p : Program} {l : Launch} {e : Env} {R : Room} {s : State} {m : MethodId} {args : Array Value} {below : List Frame} {meth : Method} {c : Code} {H : Heap} {locs : List Loc} {cells slots : Nat} {Q : State → Prop} {cc : ByteArray} {pc nL : Nat} {ls : Array Slot} {rest : List Value} {k : KT} {A : Nat → Prop} {ws ws2 : va_W} {H0 : Heap} {a : Nat} (E : E0 p s m c cc nL RX6 k A) (hW : WD k A H0 ws H locs) (q0 : Nat) {fs : List Value} (he : ws[q0]? = some (a, .inr (5, fs))) {v : Value} (hin : meth.name = "<init>") (hn : narrow (tyX6 0) v = v) (hfit : fits (tyX6 0) v = true) (hl : 0 < fs.length) (hdg : decode cc pc = .ok (.putfield 7, 3)) (hws : ws.set q0 (a, .inr (5, fs.set 0 v)) = ws2) (q : ∀ (H1 : Heap) (locs1 : List Loc), WD k A H0 ws2 H1 locs1 → W p l e R s m args below meth c H1 locs1 cells slots Q (F0 m (pc + 3) ls rest)) : W p l e R s m args below meth c H locs cells slots Q (F0 m pc ls (v :: .ref a :: rest)) := by
  subst hws
  exact va_putF (C := RX6) (T := TX6) (N := 2) (ci := 5) (ty := tyX6 0) E.hx E.hb (Ts := wsX60) (fun w hw => E.w (inX6 w hw) (tbl_laysX6 w hw)) (fun _ h => h) tyX6 tyX6_ok nmX6 E.ho E.hK hW.1 hW.2.1 hW.2.2 q0 he rfl 0 (by decide) (E.w tm_173 rfl) (fun _ h => h) rfl hin rfl (tyX6_ok 0 (by decide)) hn hfit hl hdg (fun H1 locs1 h1 h2 h3 => q H1 locs1 ⟨h1, h2, h3⟩)
theorem pf_X6_19 {p : Program} {l : Launch} {e : Env} {R : Room} {s : State} {m : MethodId} {args : Array Value} {below : List Frame} {meth : Method} {c : Code} {H : Heap} {locs : List Loc} {cells slots : Nat} {Q : State → Prop} {cc : ByteArray} {pc nL : Nat} {ls : Array Slot} {rest : List Value} {k : KT} {A : Nat → Prop} {ws ws2 : va_W} {H0 : Heap} {a : Nat} (E : E0 p s m c cc nL RX6 k A) (hW : WD k A H0 ws H locs) (q0 : Nat) {fs : List Value} (he : ws[q0]? = some (a, .inr (5, fs))) {v : Value} (hin : meth.name = "<init>") (hn : narrow (tyX6 1) v = v) (hfit : fits (tyX6 1) v = true) (hl : 1 < fs.length) (hdg : decode cc pc = .ok (.putfield 19, 3)) (hws : ws.set q0 (a, .inr (5, fs.set 1 v)) = ws2) (q : ∀ (H1 : Heap) (locs1 : List Loc), WD k A H0 ws2 H1 locs1 → W p l e R s m args below meth c H1 locs1 cells slots Q (F0 m (pc + 3) ls rest)) : W p l e R s m args below meth c H locs cells slots Q (F0 m pc ls (v :: .ref a :: rest)) := by
  subst hws
  exact va_putF (C := RX6) (T := TX6) (N := 2) (ci := 5) (ty := tyX6 1) E.hx E.hb (Ts := wsX60) (fun w hw => E.w (inX6 w hw) (tbl_laysX6 w hw)) (fun _ h => h) tyX6 tyX6_ok nmX6 E.ho E.hK hW.1 hW.2.1 hW.2.2 q0 he rfl 1 (by decide) (E.w tm_174 rfl) (fun _ h => h) rfl hin rfl (tyX6_ok 1 (by decide)) hn hfit hl hdg (fun H1 locs1 h1 h2 h3 => q H1 locs1 ⟨h1, h2, h3⟩)
theorem nw_X5_33 {p : Program} {l : Launch} {e : Env} {R : Room} {s : State} {m : MethodId} {args : Array Value} {below : List Frame} {meth : Method} {c : Code} {H : Heap} {locs : List Loc} {cells slots : Nat} {Q : State → Prop} {cc : ByteArray} {pc nL : Nat} {ls : Array Slot} {rest : List Value} {k : KT} {A : Nat → Prop} {ws : va_W} (E : E0 p s m c cc nL RX5 k A) (hW : WD k A s.heap ws H locs) (hA : ∀ q : Nat, s.heap.size ≤ q → A q) (hc : cells + 1 ≤ R.cells) (hs : slots + 2 ≤ R.slots) (hdg : decode cc pc = .ok (.new 33, 3)) (q : ∀ (x : Nat) (H1 : Heap), WD k A s.heap (ws ++ [(x, .inr (5, [.int 0, .null]))]) H1 locs → W p l e R s m args below meth c H1 locs (cells + 1) (slots + 2) Q (F0 m (pc + 3) ls (.ref x :: rest))) : W p l e R s m args below meth c H locs cells slots Q (F0 m pc ls rest) :=
  va_new (ci := 5) (fs := [.int 0, .null]) (C := RX6) (T := TX6) (N := 2) (Ts := wsX60) E.hx E.hb (fun w hw => E.w (inX6 w hw) (tbl_laysX6 w hw)) (fun _ h => h) tyX6 tyX6_ok E.ho (E.w tm_166 rfl) (E.w tm_167 rfl) (E.w tm_112 rfl) E.hK hW.1 hW.2.1 hW.2.2 hA rfl (fun j hj => match j, hj with | 0, _ => rfl | 1, _ => rfl | j + 2, h => absurd h (by omega)) hc hs hdg (fun x H1 h1 h2 h3 => q x H1 ⟨h1, h2, h3⟩)
theorem pf_X5_38 {p : Program} {l : Launch} {e : Env} {R : Room} {s : State} {m : MethodId} {args : Array Value} {below : List Frame} {meth : Method} {c : Code} {H : Heap} {locs : List Loc} {cells slots : Nat} {Q : State → Prop} {cc : ByteArray} {pc nL : Nat} {ls : Array Slot} {rest : List Value} {k : KT} {A : Nat → Prop} {ws ws2 : va_W} {H0 : Heap} {a : Nat} (E : E0 p s m c cc nL RX5 k A) (hW : WD k A H0 ws H locs) (q0 : Nat) {fs : List Value} (he : ws[q0]? = some (a, .inr (4, fs))) {v : Value} (hin : meth.name = "<init>") (hn : narrow (tyX5 7) v = v) (hfit : fits (tyX5 7) v = true) (hl : 7 < fs.length) (hdg : decode cc pc = .ok (.putfield 38, 3)) (hws : ws.set q0 (a, .inr (4, fs.set 7 v)) = ws2) (q : ∀ (H1 : Heap) (locs1 : List Loc), WD k A H0 ws2 H1 locs1 → W p l e R s m args below meth c H1 locs1 cells slots Q (F0 m (pc + 3) ls rest)) : W p l e R s m args below meth c H locs cells slots Q (F0 m pc ls (v :: .ref a :: rest)) := by
  subst hws
  exact va_putF (C := RX5) (T := TX5) (N := 8) (ci := 4) (ty := tyX5 7) E.hx E.hb (Ts := wsX50) (fun w hw => E.w (inX5 w hw) (tbl_laysX5 w hw)) (fun _ h => h) tyX5 tyX5_ok nmX5 E.ho E.hK hW.1 hW.2.1 hW.2.2 q0 he rfl 7 (by decide) (E.w tm_200 rfl) (fun _ h => h) rfl hin rfl (tyX5_ok 7 (by decide)) hn hfit hl hdg (fun H1 locs1 h1 h2 h3 => q H1 locs1 ⟨h1, h2, h3⟩)
theorem pf_X2_39 {p : Program} {l : Launch} {e : Env} {R : Room} {s : State} {m : MethodId} {args : Array Value} {below : List Frame} {meth : Method} {c : Code} {H : Heap} {locs : List Loc} {cells slots : Nat} {Q : State → Prop} {cc : ByteArray} {pc nL : Nat} {ls : Array Slot} {rest : List Value} {k : KT} {A : Nat → Prop} {ws ws2 : va_W} {H0 : Heap} {a : Nat} (E : E0 p s m c cc nL RX2 k A) (hW : WD k A H0 ws H locs) (q0 : Nat) {fs : List Value} (he : ws[q0]? = some (a, .inr (1, fs))) {v : Value} (hin : meth.name = "<init>") (hn : narrow (tyX2 9) v = v) (hfit : fits (tyX2 9) v = true) (hl : 9 < fs.length) (hdg : decode cc pc = .ok (.putfield 39, 3)) (hws : ws.set q0 (a, .inr (1, fs.set 9 v)) = ws2) (q : ∀ (H1 : Heap) (locs1 : List Loc), WD k A H0 ws2 H1 locs1 → W p l e R s m args below meth c H1 locs1 cells slots Q (F0 m (pc + 3) ls rest)) : W p l e R s m args below meth c H locs cells slots Q (F0 m pc ls (v :: .ref a :: rest)) := by
  subst hws
  exact va_putF (C := RX2) (T := TX2) (N := 16) (ci := 1) (ty := tyX2 9) E.hx E.hb (Ts := wsX20) (fun w hw => E.w (inX2 w hw) (tbl_laysX2 w hw)) (fun _ h => h) tyX2 tyX2_ok nmX2 E.ho E.hK hW.1 hW.2.1 hW.2.2 q0 he rfl 9 (by decide) (E.w tm_247 rfl) (fun _ h => h) rfl hin rfl (tyX2_ok 9 (by decide)) hn hfit hl hdg (fun H1 locs1 h1 h2 h3 => q H1 locs1 ⟨h1, h2, h3⟩)
theorem pf_X2_43 {p : Program} {l : Launch} {e : Env} {R : Room} {s : State} {m : MethodId} {args : Array Value} {below : List Frame} {meth : Method} {c : Code} {H : Heap} {locs : List Loc} {cells slots : Nat} {Q : State → Prop} {cc : ByteArray} {pc nL : Nat} {ls : Array Slot} {rest : List Value} {k : KT} {A : Nat → Prop} {ws ws2 : va_W} {H0 : Heap} {a : Nat} (E : E0 p s m c cc nL RX2 k A) (hW : WD k A H0 ws H locs) (q0 : Nat) {fs : List Value} (he : ws[q0]? = some (a, .inr (1, fs))) {v : Value} (hin : meth.name = "<init>") (hn : narrow (tyX2 10) v = v) (hfit : fits (tyX2 10) v = true) (hl : 10 < fs.length) (hdg : decode cc pc = .ok (.putfield 43, 3)) (hws : ws.set q0 (a, .inr (1, fs.set 10 v)) = ws2) (q : ∀ (H1 : Heap) (locs1 : List Loc), WD k A H0 ws2 H1 locs1 → W p l e R s m args below meth c H1 locs1 cells slots Q (F0 m (pc + 3) ls rest)) : W p l e R s m args below meth c H locs cells slots Q (F0 m pc ls (v :: .ref a :: rest)) := by
  subst hws
  exact va_putF (C := RX2) (T := TX2) (N := 16) (ci := 1) (ty := tyX2 10) E.hx E.hb (Ts := wsX20) (fun w hw => E.w (inX2 w hw) (tbl_laysX2 w hw)) (fun _ h => h) tyX2 tyX2_ok nmX2 E.ho E.hK hW.1 hW.2.1 hW.2.2 q0 he rfl 10 (by decide) (E.w tm_248 rfl) (fun _ h => h) rfl hin rfl (tyX2_ok 10 (by decide)) hn hfit hl hdg (fun H1 locs1 h1 h2 h3 => q H1 locs1 ⟨h1, h2, h3⟩)
theorem nw_X2_47 {p : Program} {l : Launch} {e : Env} {R : Room} {s : State} {m : MethodId} {args : Array Value} {below : List Frame} {meth : Method} {c : Code} {H : Heap} {locs : List Loc} {cells slots : Nat} {Q : State → Prop} {cc : ByteArray} {pc nL : Nat} {ls : Array Slot} {rest : List Value} {k : KT} {A : Nat → Prop} {ws : va_W} (E : E0 p s m c cc nL RX2 k A) (hW : WD k A s.heap ws H locs) (hA : ∀ q : Nat, s.heap.size ≤ q → A q) (hc : cells + 1 ≤ R.cells) (hs : slots + 2 ≤ R.slots) (hdg : decode cc pc = .ok (.new 47, 3)) (q : ∀ (x : Nat) (H1 : Heap), WD k A s.heap (ws ++ [(x, .inr (5, [.int 0, .null]))]) H1 locs → W p l e R s m args below meth c H1 locs (cells + 1) (slots + 2) Q (F0 m (pc + 3) ls (.ref x :: rest))) : W p l e R s m args below meth c H locs cells slots Q (F0 m pc ls rest) :=
  va_new (ci := 5) (fs := [.int 0, .null]) (C := RX6) (T := TX6) (N := 2) (Ts := wsX60) E.hx E.hb (fun w hw => E.w (inX6 w hw) (tbl_laysX6 w hw)) (fun _ h => h) tyX6 tyX6_ok E.ho (E.w tm_224 rfl) (E.w tm_167 rfl) (E.w tm_112 rfl) E.hK hW.1 hW.2.1 hW.2.2 hA rfl (fun j hj => match j, hj with | 0, _ => rfl | 1, _ => rfl | j + 2, h => absurd h (by omega)) hc hs hdg (fun x H1 h1 h2 h3 => q x H1 ⟨h1, h2, h3⟩)
theorem pf_X2_52 {p : Program} {l : Launch} {e : Env} {R : Room} {s : State} {m : MethodId} {args : Array Value} {below : List Frame} {meth : Method} {c : Code} {H : Heap} {locs : List Loc} {cells slots : Nat} {Q : State → Prop} {cc : ByteArray} {pc nL : Nat} {ls : Array Slot} {rest : List Value} {k : KT} {A : Nat → Prop} {ws ws2 : va_W} {H0 : Heap} {a : Nat} (E : E0 p s m c cc nL RX2 k A) (hW : WD k A H0 ws H locs) (q0 : Nat) {fs : List Value} (he : ws[q0]? = some (a, .inr (1, fs))) {v : Value} (hin : meth.name = "<init>") (hn : narrow (tyX2 11) v = v) (hfit : fits (tyX2 11) v = true) (hl : 11 < fs.length) (hdg : decode cc pc = .ok (.putfield 52, 3)) (hws : ws.set q0 (a, .inr (1, fs.set 11 v)) = ws2) (q : ∀ (H1 : Heap) (locs1 : List Loc), WD k A H0 ws2 H1 locs1 → W p l e R s m args below meth c H1 locs1 cells slots Q (F0 m (pc + 3) ls rest)) : W p l e R s m args below meth c H locs cells slots Q (F0 m pc ls (v :: .ref a :: rest)) := by
  subst hws
  exact va_putF (C := RX2) (T := TX2) (N := 16) (ci := 1) (ty := tyX2 11) E.hx E.hb (Ts := wsX20) (fun w hw => E.w (inX2 w hw) (tbl_laysX2 w hw)) (fun _ h => h) tyX2 tyX2_ok nmX2 E.ho E.hK hW.1 hW.2.1 hW.2.2 q0 he rfl 11 (by decide) (E.w tm_249 rfl) (fun _ h => h) rfl hin rfl (tyX2_ok 11 (by decide)) hn hfit hl hdg (fun H1 locs1 h1 h2 h3 => q H1 locs1 ⟨h1, h2, h3⟩)
theorem pf_X2_56 {p : Program} {l : Launch} {e : Env} {R : Room} {s : State} {m : MethodId} {args : Array Value} {below : List Frame} {meth : Method} {c : Code} {H : Heap} {locs : List Loc} {cells slots : Nat} {Q : State → Prop} {cc : ByteArray} {pc nL : Nat} {ls : Array Slot} {rest : List Value} {k : KT} {A : Nat → Prop} {ws ws2 : va_W} {H0 : Heap} {a : Nat} (E : E0 p s m c cc nL RX2 k A) (hW : WD k A H0 ws H locs) (q0 : Nat) {fs : List Value} (he : ws[q0]? = some (a, .inr (1, fs))) {v : Value} (hin : meth.name = "<init>") (hn : narrow (tyX2 12) v = v) (hfit : fits (tyX2 12) v = true) (hl : 12 < fs.length) (hdg : decode cc pc = .ok (.putfield 56, 3)) (hws : ws.set q0 (a, .inr (1, fs.set 12 v)) = ws2) (q : ∀ (H1 : Heap) (locs1 : List Loc), WD k A H0 ws2 H1 locs1 → W p l e R s m args below meth c H1 locs1 cells slots Q (F0 m (pc + 3) ls rest)) : W p l e R s m args below meth c H locs cells slots Q (F0 m pc ls (v :: .ref a :: rest)) := by
  subst hws
  exact va_putF (C := RX2) (T := TX2) (N := 16) (ci := 1) (ty := tyX2 12) E.hx E.hb (Ts := wsX20) (fun w hw => E.w (inX2 w hw) (tbl_laysX2 w hw)) (fun _ h => h) tyX2 tyX2_ok nmX2 E.ho E.hK hW.1 hW.2.1 hW.2.2 q0 he rfl 12 (by decide) (E.w tm_251 rfl) (fun _ h => h) rfl hin rfl (tyX2_ok 12 (by decide)) hn hfit hl hdg (fun H1 locs1 h1 h2 h3 => q H1 locs1 ⟨h1, h2, h3⟩)
theorem pf_X2_59 {p : Program} {l : Launch} {e : Env} {R : Room} {s : State} {m : MethodId} {args : Array Value} {below : List Frame} {meth : Method} {c : Code} {H : Heap} {locs : List Loc} {cells slots : Nat} {Q : State → Prop} {cc : ByteArray} {pc nL : Nat} {ls : Array Slot} {rest : List Value} {k : KT} {A : Nat → Prop} {ws ws2 : va_W} {H0 : Heap} {a : Nat} (E : E0 p s m c cc nL RX2 k A) (hW : WD k A H0 ws H locs) (q0 : Nat) {fs : List Value} (he : ws[q0]? = some (a, .inr (1, fs))) {v : Value} (hin : meth.name = "<init>") (hn : narrow (tyX2 13) v = v) (hfit : fits (tyX2 13) v = true) (hl : 13 < fs.length) (hdg : decode cc pc = .ok (.putfield 59, 3)) (hws : ws.set q0 (a, .inr (1, fs.set 13 v)) = ws2) (q : ∀ (H1 : Heap) (locs1 : List Loc), WD k A H0 ws2 H1 locs1 → W p l e R s m args below meth c H1 locs1 cells slots Q (F0 m (pc + 3) ls rest)) : W p l e R s m args below meth c H locs cells slots Q (F0 m pc ls (v :: .ref a :: rest)) := by
  subst hws
  exact va_putF (C := RX2) (T := TX2) (N := 16) (ci := 1) (ty := tyX2 13) E.hx E.hb (Ts := wsX20) (fun w hw => E.w (inX2 w hw) (tbl_laysX2 w hw)) (fun _ h => h) tyX2 tyX2_ok nmX2 E.ho E.hK hW.1 hW.2.1 hW.2.2 q0 he rfl 13 (by decide) (E.w tm_253 rfl) (fun _ h => h) rfl hin rfl (tyX2_ok 13 (by decide)) hn hfit hl hdg (fun H1 locs1 h1 h2 h3 => q H1 locs1 ⟨h1, h2, h3⟩)
theorem pf_X2_62 {p : Program} {l : Launch} {e : Env} {R : Room} {s : State} {m : MethodId} {args : Array Value} {below : List Frame} {meth : Method} {c : Code} {H : Heap} {locs : List Loc} {cells slots : Nat} {Q : State → Prop} {cc : ByteArray} {pc nL : Nat} {ls : Array Slot} {rest : List Value} {k : KT} {A : Nat → Prop} {ws ws2 : va_W} {H0 : Heap} {a : Nat} (E : E0 p s m c cc nL RX2 k A) (hW : WD k A H0 ws H locs) (q0 : Nat) {fs : List Value} (he : ws[q0]? = some (a, .inr (1, fs))) {v : Value} (hin : meth.name = "<init>") (hn : narrow (tyX2 14) v = v) (hfit : fits (tyX2 14) v = true) (hl : 14 < fs.length) (hdg : decode cc pc = .ok (.putfield 62, 3)) (hws : ws.set q0 (a, .inr (1, fs.set 14 v)) = ws2) (q : ∀ (H1 : Heap) (locs1 : List Loc), WD k A H0 ws2 H1 locs1 → W p l e R s m args below meth c H1 locs1 cells slots Q (F0 m (pc + 3) ls rest)) : W p l e R s m args below meth c H locs cells slots Q (F0 m pc ls (v :: .ref a :: rest)) := by
  subst hws
  exact va_putF (C := RX2) (T := TX2) (N := 16) (ci := 1) (ty := tyX2 14) E.hx E.hb (Ts := wsX20) (fun w hw => E.w (inX2 w hw) (tbl_laysX2 w hw)) (fun _ h => h) tyX2 tyX2_ok nmX2 E.ho E.hK hW.1 hW.2.1 hW.2.2 q0 he rfl 14 (by decide) (E.w tm_255 rfl) (fun _ h => h) rfl hin rfl (tyX2_ok 14 (by decide)) hn hfit hl hdg (fun H1 locs1 h1 h2 h3 => q H1 locs1 ⟨h1, h2, h3⟩)
theorem pf_X2_65 {p : Program} {l : Launch} {e : Env} {R : Room} {s : State} {m : MethodId} {args : Array Value} {below : List Frame} {meth : Method} {c : Code} {H : Heap} {locs : List Loc} {cells slots : Nat} {Q : State → Prop} {cc : ByteArray} {pc nL : Nat} {ls : Array Slot} {rest : List Value} {k : KT} {A : Nat → Prop} {ws ws2 : va_W} {H0 : Heap} {a : Nat} (E : E0 p s m c cc nL RX2 k A) (hW : WD k A H0 ws H locs) (q0 : Nat) {fs : List Value} (he : ws[q0]? = some (a, .inr (1, fs))) {v : Value} (hin : meth.name = "<init>") (hn : narrow (tyX2 15) v = v) (hfit : fits (tyX2 15) v = true) (hl : 15 < fs.length) (hdg : decode cc pc = .ok (.putfield 65, 3)) (hws : ws.set q0 (a, .inr (1, fs.set 15 v)) = ws2) (q : ∀ (H1 : Heap) (locs1 : List Loc), WD k A H0 ws2 H1 locs1 → W p l e R s m args below meth c H1 locs1 cells slots Q (F0 m (pc + 3) ls rest)) : W p l e R s m args below meth c H locs cells slots Q (F0 m pc ls (v :: .ref a :: rest)) := by
  subst hws
  exact va_putF (C := RX2) (T := TX2) (N := 16) (ci := 1) (ty := tyX2 15) E.hx E.hb (Ts := wsX20) (fun w hw => E.w (inX2 w hw) (tbl_laysX2 w hw)) (fun _ h => h) tyX2 tyX2_ok nmX2 E.ho E.hK hW.1 hW.2.1 hW.2.2 q0 he rfl 15 (by decide) (E.w tm_256 rfl) (fun _ h => h) rfl hin rfl (tyX2_ok 15 (by decide)) hn hfit hl hdg (fun H1 locs1 h1 h2 h3 => q H1 locs1 ⟨h1, h2, h3⟩)
theorem pf_X3_11 {p : Program} {l : Launch} {e : Env} {R : Room} {s : State} {m : MethodId} {args : Array Value} {below : List Frame} {meth : Method} {c : Code} {H : Heap} {locs : List Loc} {cells slots : Nat} {Q : State → Prop} {cc : ByteArray} {pc nL : Nat} {ls : Array Slot} {rest : List Value} {k : KT} {A : Nat → Prop} {ws ws2 : va_W} {H0 : Heap} {a : Nat} (E : E0 p s m c cc nL RX3 k A) (hW : WD k A H0 ws H locs) (q0 : Nat) {fs : List Value} (he : ws[q0]? = some (a, .inr (2, fs))) {v : Value} (hin : meth.name = "<init>") (hn : narrow (tyX3 0) v = v) (hfit : fits (tyX3 0) v = true) (hl : 0 < fs.length) (hdg : decode cc pc = .ok (.putfield 11, 3)) (hws : ws.set q0 (a, .inr (2, fs.set 0 v)) = ws2) (q : ∀ (H1 : Heap) (locs1 : List Loc), WD k A H0 ws2 H1 locs1 → W p l e R s m args below meth c H1 locs1 cells slots Q (F0 m (pc + 3) ls rest)) : W p l e R s m args below meth c H locs cells slots Q (F0 m pc ls (v :: .ref a :: rest)) := by
  subst hws
  exact va_putF (C := RX3) (T := TX3) (N := 3) (ci := 2) (ty := tyX3 0) E.hx E.hb (Ts := wsX30) (fun w hw => E.w (inX3 w hw) (tbl_laysX3 w hw)) (fun _ h => h) tyX3 tyX3_ok nmX3 E.ho E.hK hW.1 hW.2.1 hW.2.2 q0 he rfl 0 (by decide) (E.w tm_349 rfl) (fun _ h => h) rfl hin rfl (tyX3_ok 0 (by decide)) hn hfit hl hdg (fun H1 locs1 h1 h2 h3 => q H1 locs1 ⟨h1, h2, h3⟩)
theorem pf_X3_17 {p : Program} {l : Launch} {e : Env} {R : Room} {s : State} {m : MethodId} {args : Array Value} {below : List Frame} {meth : Method} {c : Code} {H : Heap} {locs : List Loc} {cells slots : Nat} {Q : State → Prop} {cc : ByteArray} {pc nL : Nat} {ls : Array Slot} {rest : List Value} {k : KT} {A : Nat → Prop} {ws ws2 : va_W} {H0 : Heap} {a : Nat} (E : E0 p s m c cc nL RX3 k A) (hW : WD k A H0 ws H locs) (q0 : Nat) {fs : List Value} (he : ws[q0]? = some (a, .inr (2, fs))) {v : Value} (hn : narrow (tyX3 1) v = v) (hfit : fits (tyX3 1) v = true) (hl : 1 < fs.length) (hdg : decode cc pc = .ok (.putfield 17, 3)) (hws : ws.set q0 (a, .inr (2, fs.set 1 v)) = ws2) (q : ∀ (H1 : Heap) (locs1 : List Loc), WD k A H0 ws2 H1 locs1 → W p l e R s m args below meth c H1 locs1 cells slots Q (F0 m (pc + 3) ls rest)) : W p l e R s m args below meth c H locs cells slots Q (F0 m pc ls (v :: .ref a :: rest)) := by
  subst hws
  exact va_put (C := RX3) (T := TX3) (N := 3) (ci := 2) (ty := tyX3 1) E.hx E.hb (Ts := wsX30) (fun w hw => E.w (inX3 w hw) (tbl_laysX3 w hw)) (fun _ h => h) tyX3 tyX3_ok nmX3 E.ho E.hK hW.1 hW.2.1 hW.2.2 q0 he rfl 1 (by decide) (E.w tm_350 rfl) (fun _ h => h) rfl (tyX3_ok 1 (by decide)) hn hfit hl hdg (fun H1 locs1 h1 h2 h3 => q H1 locs1 ⟨h1, h2, h3⟩)
theorem nw_X4_9 {p : Program} {l : Launch} {e : Env} {R : Room} {s : State} {m : MethodId} {args : Array Value} {below : List Frame} {meth : Method} {c : Code} {H : Heap} {locs : List Loc} {cells slots : Nat} {Q : State → Prop} {cc : ByteArray} {pc nL : Nat} {ls : Array Slot} {rest : List Value} {k : KT} {A : Nat → Prop} {ws : va_W} (E : E0 p s m c cc nL RX4 k A) (hW : WD k A s.heap ws H locs) (hA : ∀ q : Nat, s.heap.size ≤ q → A q) (hc : cells + 1 ≤ R.cells) (hs : slots + 8 ≤ R.slots) (hdg : decode cc pc = .ok (.new 9, 3)) (q : ∀ (x : Nat) (H1 : Heap), WD k A s.heap (ws ++ [(x, .inr (4, [.int 0, .int 0, .int 0, .int 0, .int 0, .int 0, .int 0, .null]))]) H1 locs → W p l e R s m args below meth c H1 locs (cells + 1) (slots + 8) Q (F0 m (pc + 3) ls (.ref x :: rest))) : W p l e R s m args below meth c H locs cells slots Q (F0 m pc ls rest) :=
  va_new (ci := 4) (fs := [.int 0, .int 0, .int 0, .int 0, .int 0, .int 0, .int 0, .null]) (C := RX5) (T := TX5) (N := 8) (Ts := wsX50) E.hx E.hb (fun w hw => E.w (inX5 w hw) (tbl_laysX5 w hw)) (fun _ h => h) tyX5 tyX5_ok E.ho (E.w tm_297 rfl) (E.w tm_161 rfl) (E.w tm_111 rfl) E.hK hW.1 hW.2.1 hW.2.2 hA rfl (fun j hj => match j, hj with | 0, _ => rfl | 1, _ => rfl | 2, _ => rfl | 3, _ => rfl | 4, _ => rfl | 5, _ => rfl | 6, _ => rfl | 7, _ => rfl | j + 8, h => absurd h (by omega)) hc hs hdg (fun x H1 h1 h2 h3 => q x H1 ⟨h1, h2, h3⟩)
theorem pf_X4_12 {p : Program} {l : Launch} {e : Env} {R : Room} {s : State} {m : MethodId} {args : Array Value} {below : List Frame} {meth : Method} {c : Code} {H : Heap} {locs : List Loc} {cells slots : Nat} {Q : State → Prop} {cc : ByteArray} {pc nL : Nat} {ls : Array Slot} {rest : List Value} {k : KT} {A : Nat → Prop} {ws ws2 : va_W} {H0 : Heap} {a : Nat} (E : E0 p s m c cc nL RX4 k A) (hW : WD k A H0 ws H locs) (q0 : Nat) {fs : List Value} (he : ws[q0]? = some (a, .inr (3, fs))) {v : Value} (hin : meth.name = "<init>") (hn : narrow (tyX4 2) v = v) (hfit : fits (tyX4 2) v = true) (hl : 2 < fs.length) (hdg : decode cc pc = .ok (.putfield 12, 3)) (hws : ws.set q0 (a, .inr (3, fs.set 2 v)) = ws2) (q : ∀ (H1 : Heap) (locs1 : List Loc), WD k A H0 ws2 H1 locs1 → W p l e R s m args below meth c H1 locs1 cells slots Q (F0 m (pc + 3) ls rest)) : W p l e R s m args below meth c H locs cells slots Q (F0 m pc ls (v :: .ref a :: rest)) := by
  subst hws
  exact va_putF (C := RX4) (T := TX4) (N := 12) (ci := 3) (ty := tyX4 2) E.hx E.hb (Ts := wsX40) (fun w hw => E.w (inX4 w hw) (tbl_laysX4 w hw)) (fun _ h => h) tyX4 tyX4_ok nmX4 E.ho E.hK hW.1 hW.2.1 hW.2.2 q0 he rfl 2 (by decide) (E.w tm_303 rfl) (fun _ h => h) rfl hin rfl (tyX4_ok 2 (by decide)) hn hfit hl hdg (fun H1 locs1 h1 h2 h3 => q H1 locs1 ⟨h1, h2, h3⟩)
theorem pf_X4_52 {p : Program} {l : Launch} {e : Env} {R : Room} {s : State} {m : MethodId} {args : Array Value} {below : List Frame} {meth : Method} {c : Code} {H : Heap} {locs : List Loc} {cells slots : Nat} {Q : State → Prop} {cc : ByteArray} {pc nL : Nat} {ls : Array Slot} {rest : List Value} {k : KT} {A : Nat → Prop} {ws ws2 : va_W} {H0 : Heap} {a : Nat} (E : E0 p s m c cc nL RX4 k A) (hW : WD k A H0 ws H locs) (q0 : Nat) {fs : List Value} (he : ws[q0]? = some (a, .inr (3, fs))) {v : Value} (hin : meth.name = "<init>") (hn : narrow (tyX4 0) v = v) (hfit : fits (tyX4 0) v = true) (hl : 0 < fs.length) (hdg : decode cc pc = .ok (.putfield 52, 3)) (hws : ws.set q0 (a, .inr (3, fs.set 0 v)) = ws2) (q : ∀ (H1 : Heap) (locs1 : List Loc), WD k A H0 ws2 H1 locs1 → W p l e R s m args below meth c H1 locs1 cells slots Q (F0 m (pc + 3) ls rest)) : W p l e R s m args below meth c H locs cells slots Q (F0 m pc ls (v :: .ref a :: rest)) := by
  subst hws
  exact va_putF (C := RX4) (T := TX4) (N := 12) (ci := 3) (ty := tyX4 0) E.hx E.hb (Ts := wsX40) (fun w hw => E.w (inX4 w hw) (tbl_laysX4 w hw)) (fun _ h => h) tyX4 tyX4_ok nmX4 E.ho E.hK hW.1 hW.2.1 hW.2.2 q0 he rfl 0 (by decide) (E.w tm_301 rfl) (fun _ h => h) rfl hin rfl (tyX4_ok 0 (by decide)) hn hfit hl hdg (fun H1 locs1 h1 h2 h3 => q H1 locs1 ⟨h1, h2, h3⟩)
theorem pf_X4_56 {p : Program} {l : Launch} {e : Env} {R : Room} {s : State} {m : MethodId} {args : Array Value} {below : List Frame} {meth : Method} {c : Code} {H : Heap} {locs : List Loc} {cells slots : Nat} {Q : State → Prop} {cc : ByteArray} {pc nL : Nat} {ls : Array Slot} {rest : List Value} {k : KT} {A : Nat → Prop} {ws ws2 : va_W} {H0 : Heap} {a : Nat} (E : E0 p s m c cc nL RX4 k A) (hW : WD k A H0 ws H locs) (q0 : Nat) {fs : List Value} (he : ws[q0]? = some (a, .inr (3, fs))) {v : Value} (hin : meth.name = "<init>") (hn : narrow (tyX4 1) v = v) (hfit : fits (tyX4 1) v = true) (hl : 1 < fs.length) (hdg : decode cc pc = .ok (.putfield 56, 3)) (hws : ws.set q0 (a, .inr (3, fs.set 1 v)) = ws2) (q : ∀ (H1 : Heap) (locs1 : List Loc), WD k A H0 ws2 H1 locs1 → W p l e R s m args below meth c H1 locs1 cells slots Q (F0 m (pc + 3) ls rest)) : W p l e R s m args below meth c H locs cells slots Q (F0 m pc ls (v :: .ref a :: rest)) := by
  subst hws
  exact va_putF (C := RX4) (T := TX4) (N := 12) (ci := 3) (ty := tyX4 1) E.hx E.hb (Ts := wsX40) (fun w hw => E.w (inX4 w hw) (tbl_laysX4 w hw)) (fun _ h => h) tyX4 tyX4_ok nmX4 E.ho E.hK hW.1 hW.2.1 hW.2.2 q0 he rfl 1 (by decide) (E.w tm_302 rfl) (fun _ h => h) rfl hin rfl (tyX4_ok 1 (by decide)) hn hfit hl hdg (fun H1 locs1 h1 h2 h3 => q H1 locs1 ⟨h1, h2, h3⟩)
theorem nw_X8_9 {p : Program} {l : Launch} {e : Env} {R : Room} {s : State} {m : MethodId} {args : Array Value} {below : List Frame} {meth : Method} {c : Code} {H : Heap} {locs : List Loc} {cells slots : Nat} {Q : State → Prop} {cc : ByteArray} {pc nL : Nat} {ls : Array Slot} {rest : List Value} {k : KT} {A : Nat → Prop} {ws : va_W} (E : E0 p s m c cc nL RX8 k A) (hW : WD k A s.heap ws H locs) (hA : ∀ q : Nat, s.heap.size ≤ q → A q) (hc : cells + 1 ≤ R.cells) (hs : slots + 2 ≤ R.slots) (hdg : decode cc pc = .ok (.new 9, 3)) (q : ∀ (x : Nat) (H1 : Heap), WD k A s.heap (ws ++ [(x, .inr (0, [.null, .int 0]))]) H1 locs → W p l e R s m args below meth c H1 locs (cells + 1) (slots + 2) Q (F0 m (pc + 3) ls (.ref x :: rest))) : W p l e R s m args below meth c H locs cells slots Q (F0 m pc ls rest) :=
  va_new (ci := 0) (fs := [.null, .int 0]) (C := RX1) (T := TX1) (N := 2) (Ts := wsX10) E.hx E.hb (fun w hw => E.w (inX1 w hw) (tbl_laysX1 w hw)) (fun _ h => h) tyX1 tyX1_ok E.ho (E.w tm_141 rfl) (E.w tm_142 rfl) (E.w tm_109 rfl) E.hK hW.1 hW.2.1 hW.2.2 hA rfl (fun j hj => match j, hj with | 0, _ => rfl | 1, _ => rfl | j + 2, h => absurd h (by omega)) hc hs hdg (fun x H1 h1 h2 h3 => q x H1 ⟨h1, h2, h3⟩)
theorem pf_X8_14 {p : Program} {l : Launch} {e : Env} {R : Room} {s : State} {m : MethodId} {args : Array Value} {below : List Frame} {meth : Method} {c : Code} {H : Heap} {locs : List Loc} {cells slots : Nat} {Q : State → Prop} {cc : ByteArray} {pc nL : Nat} {ls : Array Slot} {rest : List Value} {k : KT} {A : Nat → Prop} {ws ws2 : va_W} {H0 : Heap} {a : Nat} (E : E0 p s m c cc nL RX8 k A) (hW : WD k A H0 ws H locs) (q0 : Nat) {fs : List Value} (he : ws[q0]? = some (a, .inr (6, fs))) {v : Value} (hin : meth.name = "<init>") (hn : narrow (tyX8 0) v = v) (hfit : fits (tyX8 0) v = true) (hl : 0 < fs.length) (hdg : decode cc pc = .ok (.putfield 14, 3)) (hws : ws.set q0 (a, .inr (6, fs.set 0 v)) = ws2) (q : ∀ (H1 : Heap) (locs1 : List Loc), WD k A H0 ws2 H1 locs1 → W p l e R s m args below meth c H1 locs1 cells slots Q (F0 m (pc + 3) ls rest)) : W p l e R s m args below meth c H locs cells slots Q (F0 m pc ls (v :: .ref a :: rest)) := by
  subst hws
  exact va_putF (C := RX8) (T := TX8) (N := 9) (ci := 6) (ty := tyX8 0) E.hx E.hb (Ts := wsX80) (fun w hw => E.w (inX8 w hw) (tbl_laysX8 w hw)) (fun _ h => h) tyX8 tyX8_ok nmX8 E.ho E.hK hW.1 hW.2.1 hW.2.2 q0 he rfl 0 (by decide) (E.w tm_390 rfl) (fun _ h => h) rfl hin rfl (tyX8_ok 0 (by decide)) hn hfit hl hdg (fun H1 locs1 h1 h2 h3 => q H1 locs1 ⟨h1, h2, h3⟩)
theorem pf_X8_18 {p : Program} {l : Launch} {e : Env} {R : Room} {s : State} {m : MethodId} {args : Array Value} {below : List Frame} {meth : Method} {c : Code} {H : Heap} {locs : List Loc} {cells slots : Nat} {Q : State → Prop} {cc : ByteArray} {pc nL : Nat} {ls : Array Slot} {rest : List Value} {k : KT} {A : Nat → Prop} {ws ws2 : va_W} {H0 : Heap} {a : Nat} (E : E0 p s m c cc nL RX8 k A) (hW : WD k A H0 ws H locs) (q0 : Nat) {fs : List Value} (he : ws[q0]? = some (a, .inr (6, fs))) {v : Value} (hin : meth.name = "<init>") (hn : narrow (tyX8 1) v = v) (hfit : fits (tyX8 1) v = true) (hl : 1 < fs.length) (hdg : decode cc pc = .ok (.putfield 18, 3)) (hws : ws.set q0 (a, .inr (6, fs.set 1 v)) = ws2) (q : ∀ (H1 : Heap) (locs1 : List Loc), WD k A H0 ws2 H1 locs1 → W p l e R s m args below meth c H1 locs1 cells slots Q (F0 m (pc + 3) ls rest)) : W p l e R s m args below meth c H locs cells slots Q (F0 m pc ls (v :: .ref a :: rest)) := by
  subst hws
  exact va_putF (C := RX8) (T := TX8) (N := 9) (ci := 6) (ty := tyX8 1) E.hx E.hb (Ts := wsX80) (fun w hw => E.w (inX8 w hw) (tbl_laysX8 w hw)) (fun _ h => h) tyX8 tyX8_ok nmX8 E.ho E.hK hW.1 hW.2.1 hW.2.2 q0 he rfl 1 (by decide) (E.w tm_391 rfl) (fun _ h => h) rfl hin rfl (tyX8_ok 1 (by decide)) hn hfit hl hdg (fun H1 locs1 h1 h2 h3 => q H1 locs1 ⟨h1, h2, h3⟩)
theorem nw_X8_21 {p : Program} {l : Launch} {e : Env} {R : Room} {s : State} {m : MethodId} {args : Array Value} {below : List Frame} {meth : Method} {c : Code} {H : Heap} {locs : List Loc} {cells slots : Nat} {Q : State → Prop} {cc : ByteArray} {pc nL : Nat} {ls : Array Slot} {rest : List Value} {k : KT} {A : Nat → Prop} {ws : va_W} (E : E0 p s m c cc nL RX8 k A) (hW : WD k A s.heap ws H locs) (hA : ∀ q : Nat, s.heap.size ≤ q → A q) (hc : cells + 1 ≤ R.cells) (hs : slots + 8 ≤ R.slots) (hdg : decode cc pc = .ok (.new 21, 3)) (q : ∀ (x : Nat) (H1 : Heap), WD k A s.heap (ws ++ [(x, .inr (4, [.int 0, .int 0, .int 0, .int 0, .int 0, .int 0, .int 0, .null]))]) H1 locs → W p l e R s m args below meth c H1 locs (cells + 1) (slots + 8) Q (F0 m (pc + 3) ls (.ref x :: rest))) : W p l e R s m args below meth c H locs cells slots Q (F0 m pc ls rest) :=
  va_new (ci := 4) (fs := [.int 0, .int 0, .int 0, .int 0, .int 0, .int 0, .int 0, .null]) (C := RX5) (T := TX5) (N := 8) (Ts := wsX50) E.hx E.hb (fun w hw => E.w (inX5 w hw) (tbl_laysX5 w hw)) (fun _ h => h) tyX5 tyX5_ok E.ho (E.w tm_160 rfl) (E.w tm_161 rfl) (E.w tm_111 rfl) E.hK hW.1 hW.2.1 hW.2.2 hA rfl (fun j hj => match j, hj with | 0, _ => rfl | 1, _ => rfl | 2, _ => rfl | 3, _ => rfl | 4, _ => rfl | 5, _ => rfl | 6, _ => rfl | 7, _ => rfl | j + 8, h => absurd h (by omega)) hc hs hdg (fun x H1 h1 h2 h3 => q x H1 ⟨h1, h2, h3⟩)
theorem pf_X8_24 {p : Program} {l : Launch} {e : Env} {R : Room} {s : State} {m : MethodId} {args : Array Value} {below : List Frame} {meth : Method} {c : Code} {H : Heap} {locs : List Loc} {cells slots : Nat} {Q : State → Prop} {cc : ByteArray} {pc nL : Nat} {ls : Array Slot} {rest : List Value} {k : KT} {A : Nat → Prop} {ws ws2 : va_W} {H0 : Heap} {a : Nat} (E : E0 p s m c cc nL RX8 k A) (hW : WD k A H0 ws H locs) (q0 : Nat) {fs : List Value} (he : ws[q0]? = some (a, .inr (6, fs))) {v : Value} (hin : meth.name = "<init>") (hn : narrow (tyX8 2) v = v) (hfit : fits (tyX8 2) v = true) (hl : 2 < fs.length) (hdg : decode cc pc = .ok (.putfield 24, 3)) (hws : ws.set q0 (a, .inr (6, fs.set 2 v)) = ws2) (q : ∀ (H1 : Heap) (locs1 : List Loc), WD k A H0 ws2 H1 locs1 → W p l e R s m args below meth c H1 locs1 cells slots Q (F0 m (pc + 3) ls rest)) : W p l e R s m args below meth c H locs cells slots Q (F0 m pc ls (v :: .ref a :: rest)) := by
  subst hws
  exact va_putF (C := RX8) (T := TX8) (N := 9) (ci := 6) (ty := tyX8 2) E.hx E.hb (Ts := wsX80) (fun w hw => E.w (inX8 w hw) (tbl_laysX8 w hw)) (fun _ h => h) tyX8 tyX8_ok nmX8 E.ho E.hK hW.1 hW.2.1 hW.2.2 q0 he rfl 2 (by decide) (E.w tm_392 rfl) (fun _ h => h) rfl hin rfl (tyX8_ok 2 (by decide)) hn hfit hl hdg (fun H1 locs1 h1 h2 h3 => q H1 locs1 ⟨h1, h2, h3⟩)
theorem nw_X8_28 {p : Program} {l : Launch} {e : Env} {R : Room} {s : State} {m : MethodId} {args : Array Value} {below : List Frame} {meth : Method} {c : Code} {H : Heap} {locs : List Loc} {cells slots : Nat} {Q : State → Prop} {cc : ByteArray} {pc nL : Nat} {ls : Array Slot} {rest : List Value} {k : KT} {A : Nat → Prop} {ws : va_W} (E : E0 p s m c cc nL RX8 k A) (hW : WD k A s.heap ws H locs) (hA : ∀ q : Nat, s.heap.size ≤ q → A q) (hc : cells + 1 ≤ R.cells) (hs : slots + 16 ≤ R.slots) (hdg : decode cc pc = .ok (.new 28, 3)) (q : ∀ (x : Nat) (H1 : Heap), WD k A s.heap (ws ++ [(x, .inr (1, [.int 0, .int 0, .int 0, .int 0, .int 0, .int 0, .int 0, .int 0, .int 0, .null, .null, .null, .null, .null, .null, .null]))]) H1 locs → W p l e R s m args below meth c H1 locs (cells + 1) (slots + 16) Q (F0 m (pc + 3) ls (.ref x :: rest))) : W p l e R s m args below meth c H locs cells slots Q (F0 m pc ls rest) :=
  va_new (ci := 1) (fs := [.int 0, .int 0, .int 0, .int 0, .int 0, .int 0, .int 0, .int 0, .int 0, .null, .null, .null, .null, .null, .null, .null]) (C := RX2) (T := TX2) (N := 16) (Ts := wsX20) E.hx E.hb (fun w hw => E.w (inX2 w hw) (tbl_laysX2 w hw)) (fun _ h => h) tyX2 tyX2_ok E.ho (E.w tm_218 rfl) (E.w tm_219 rfl) (E.w tm_113 rfl) E.hK hW.1 hW.2.1 hW.2.2 hA rfl (fun j hj => match j, hj with | 0, _ => rfl | 1, _ => rfl | 2, _ => rfl | 3, _ => rfl | 4, _ => rfl | 5, _ => rfl | 6, _ => rfl | 7, _ => rfl | 8, _ => rfl | 9, _ => rfl | 10, _ => rfl | 11, _ => rfl | 12, _ => rfl | 13, _ => rfl | 14, _ => rfl | 15, _ => rfl | j + 16, h => absurd h (by omega)) hc hs hdg (fun x H1 h1 h2 h3 => q x H1 ⟨h1, h2, h3⟩)
theorem pf_X8_31 {p : Program} {l : Launch} {e : Env} {R : Room} {s : State} {m : MethodId} {args : Array Value} {below : List Frame} {meth : Method} {c : Code} {H : Heap} {locs : List Loc} {cells slots : Nat} {Q : State → Prop} {cc : ByteArray} {pc nL : Nat} {ls : Array Slot} {rest : List Value} {k : KT} {A : Nat → Prop} {ws ws2 : va_W} {H0 : Heap} {a : Nat} (E : E0 p s m c cc nL RX8 k A) (hW : WD k A H0 ws H locs) (q0 : Nat) {fs : List Value} (he : ws[q0]? = some (a, .inr (6, fs))) {v : Value} (hin : meth.name = "<init>") (hn : narrow (tyX8 3) v = v) (hfit : fits (tyX8 3) v = true) (hl : 3 < fs.length) (hdg : decode cc pc = .ok (.putfield 31, 3)) (hws : ws.set q0 (a, .inr (6, fs.set 3 v)) = ws2) (q : ∀ (H1 : Heap) (locs1 : List Loc), WD k A H0 ws2 H1 locs1 → W p l e R s m args below meth c H1 locs1 cells slots Q (F0 m (pc + 3) ls rest)) : W p l e R s m args below meth c H locs cells slots Q (F0 m pc ls (v :: .ref a :: rest)) := by
  subst hws
  exact va_putF (C := RX8) (T := TX8) (N := 9) (ci := 6) (ty := tyX8 3) E.hx E.hb (Ts := wsX80) (fun w hw => E.w (inX8 w hw) (tbl_laysX8 w hw)) (fun _ h => h) tyX8 tyX8_ok nmX8 E.ho E.hK hW.1 hW.2.1 hW.2.2 q0 he rfl 3 (by decide) (E.w tm_393 rfl) (fun _ h => h) rfl hin rfl (tyX8_ok 3 (by decide)) hn hfit hl hdg (fun H1 locs1 h1 h2 h3 => q H1 locs1 ⟨h1, h2, h3⟩)
theorem pf_X8_35 {p : Program} {l : Launch} {e : Env} {R : Room} {s : State} {m : MethodId} {args : Array Value} {below : List Frame} {meth : Method} {c : Code} {H : Heap} {locs : List Loc} {cells slots : Nat} {Q : State → Prop} {cc : ByteArray} {pc nL : Nat} {ls : Array Slot} {rest : List Value} {k : KT} {A : Nat → Prop} {ws ws2 : va_W} {H0 : Heap} {a : Nat} (E : E0 p s m c cc nL RX8 k A) (hW : WD k A H0 ws H locs) (q0 : Nat) {fs : List Value} (he : ws[q0]? = some (a, .inr (6, fs))) {v : Value} (hin : meth.name = "<init>") (hn : narrow (tyX8 4) v = v) (hfit : fits (tyX8 4) v = true) (hl : 4 < fs.length) (hdg : decode cc pc = .ok (.putfield 35, 3)) (hws : ws.set q0 (a, .inr (6, fs.set 4 v)) = ws2) (q : ∀ (H1 : Heap) (locs1 : List Loc), WD k A H0 ws2 H1 locs1 → W p l e R s m args below meth c H1 locs1 cells slots Q (F0 m (pc + 3) ls rest)) : W p l e R s m args below meth c H locs cells slots Q (F0 m pc ls (v :: .ref a :: rest)) := by
  subst hws
  exact va_putF (C := RX8) (T := TX8) (N := 9) (ci := 6) (ty := tyX8 4) E.hx E.hb (Ts := wsX80) (fun w hw => E.w (inX8 w hw) (tbl_laysX8 w hw)) (fun _ h => h) tyX8 tyX8_ok nmX8 E.ho E.hK hW.1 hW.2.1 hW.2.2 q0 he rfl 4 (by decide) (E.w tm_394 rfl) (fun _ h => h) rfl hin rfl (tyX8_ok 4 (by decide)) hn hfit hl hdg (fun H1 locs1 h1 h2 h3 => q H1 locs1 ⟨h1, h2, h3⟩)
theorem nw_X8_38 {p : Program} {l : Launch} {e : Env} {R : Room} {s : State} {m : MethodId} {args : Array Value} {below : List Frame} {meth : Method} {c : Code} {H : Heap} {locs : List Loc} {cells slots : Nat} {Q : State → Prop} {cc : ByteArray} {pc nL : Nat} {ls : Array Slot} {rest : List Value} {k : KT} {A : Nat → Prop} {ws : va_W} (E : E0 p s m c cc nL RX8 k A) (hW : WD k A s.heap ws H locs) (hA : ∀ q : Nat, s.heap.size ≤ q → A q) (hc : cells + 1 ≤ R.cells) (hs : slots + 12 ≤ R.slots) (hdg : decode cc pc = .ok (.new 38, 3)) (q : ∀ (x : Nat) (H1 : Heap), WD k A s.heap (ws ++ [(x, .inr (3, [.null, .null, .null, .int 0, .int 0, .int 0, .int 0, .int 0, .null, .int 0, .int 0, .int 0]))]) H1 locs → W p l e R s m args below meth c H1 locs (cells + 1) (slots + 12) Q (F0 m (pc + 3) ls (.ref x :: rest))) : W p l e R s m args below meth c H locs cells slots Q (F0 m pc ls rest) :=
  va_new (ci := 3) (fs := [.null, .null, .null, .int 0, .int 0, .int 0, .int 0, .int 0, .null, .int 0, .int 0, .int 0]) (C := RX4) (T := TX4) (N := 12) (Ts := wsX40) E.hx E.hb (fun w hw => E.w (inX4 w hw) (tbl_laysX4 w hw)) (fun _ h => h) tyX4 tyX4_ok E.ho (E.w tm_291 rfl) (E.w tm_292 rfl) (E.w tm_114 rfl) E.hK hW.1 hW.2.1 hW.2.2 hA rfl (fun j hj => match j, hj with | 0, _ => rfl | 1, _ => rfl | 2, _ => rfl | 3, _ => rfl | 4, _ => rfl | 5, _ => rfl | 6, _ => rfl | 7, _ => rfl | 8, _ => rfl | 9, _ => rfl | 10, _ => rfl | 11, _ => rfl | j + 12, h => absurd h (by omega)) hc hs hdg (fun x H1 h1 h2 h3 => q x H1 ⟨h1, h2, h3⟩)
theorem pf_X8_43 {p : Program} {l : Launch} {e : Env} {R : Room} {s : State} {m : MethodId} {args : Array Value} {below : List Frame} {meth : Method} {c : Code} {H : Heap} {locs : List Loc} {cells slots : Nat} {Q : State → Prop} {cc : ByteArray} {pc nL : Nat} {ls : Array Slot} {rest : List Value} {k : KT} {A : Nat → Prop} {ws ws2 : va_W} {H0 : Heap} {a : Nat} (E : E0 p s m c cc nL RX8 k A) (hW : WD k A H0 ws H locs) (q0 : Nat) {fs : List Value} (he : ws[q0]? = some (a, .inr (6, fs))) {v : Value} (hin : meth.name = "<init>") (hn : narrow (tyX8 5) v = v) (hfit : fits (tyX8 5) v = true) (hl : 5 < fs.length) (hdg : decode cc pc = .ok (.putfield 43, 3)) (hws : ws.set q0 (a, .inr (6, fs.set 5 v)) = ws2) (q : ∀ (H1 : Heap) (locs1 : List Loc), WD k A H0 ws2 H1 locs1 → W p l e R s m args below meth c H1 locs1 cells slots Q (F0 m (pc + 3) ls rest)) : W p l e R s m args below meth c H locs cells slots Q (F0 m pc ls (v :: .ref a :: rest)) := by
  subst hws
  exact va_putF (C := RX8) (T := TX8) (N := 9) (ci := 6) (ty := tyX8 5) E.hx E.hb (Ts := wsX80) (fun w hw => E.w (inX8 w hw) (tbl_laysX8 w hw)) (fun _ h => h) tyX8 tyX8_ok nmX8 E.ho E.hK hW.1 hW.2.1 hW.2.2 q0 he rfl 5 (by decide) (E.w tm_395 rfl) (fun _ h => h) rfl hin rfl (tyX8_ok 5 (by decide)) hn hfit hl hdg (fun H1 locs1 h1 h2 h3 => q H1 locs1 ⟨h1, h2, h3⟩)
theorem nw_X8_47 {p : Program} {l : Launch} {e : Env} {R : Room} {s : State} {m : MethodId} {args : Array Value} {below : List Frame} {meth : Method} {c : Code} {H : Heap} {locs : List Loc} {cells slots : Nat} {Q : State → Prop} {cc : ByteArray} {pc nL : Nat} {ls : Array Slot} {rest : List Value} {k : KT} {A : Nat → Prop} {ws : va_W} (E : E0 p s m c cc nL RX8 k A) (hW : WD k A s.heap ws H locs) (hA : ∀ q : Nat, s.heap.size ≤ q → A q) (hc : cells + 1 ≤ R.cells) (hs : slots + 3 ≤ R.slots) (hdg : decode cc pc = .ok (.new 47, 3)) (q : ∀ (x : Nat) (H1 : Heap), WD k A s.heap (ws ++ [(x, .inr (2, [.null, .int 0, .int 0]))]) H1 locs → W p l e R s m args below meth c H1 locs (cells + 1) (slots + 3) Q (F0 m (pc + 3) ls (.ref x :: rest))) : W p l e R s m args below meth c H locs cells slots Q (F0 m pc ls rest) :=
  va_new (ci := 2) (fs := [.null, .int 0, .int 0]) (C := RX3) (T := TX3) (N := 3) (Ts := wsX30) E.hx E.hb (fun w hw => E.w (inX3 w hw) (tbl_laysX3 w hw)) (fun _ h => h) tyX3 tyX3_ok E.ho (E.w tm_341 rfl) (E.w tm_342 rfl) (E.w tm_117 rfl) E.hK hW.1 hW.2.1 hW.2.2 hA rfl (fun j hj => match j, hj with | 0, _ => rfl | 1, _ => rfl | 2, _ => rfl | j + 3, h => absurd h (by omega)) hc hs hdg (fun x H1 h1 h2 h3 => q x H1 ⟨h1, h2, h3⟩)
theorem pf_X8_50 {p : Program} {l : Launch} {e : Env} {R : Room} {s : State} {m : MethodId} {args : Array Value} {below : List Frame} {meth : Method} {c : Code} {H : Heap} {locs : List Loc} {cells slots : Nat} {Q : State → Prop} {cc : ByteArray} {pc nL : Nat} {ls : Array Slot} {rest : List Value} {k : KT} {A : Nat → Prop} {ws ws2 : va_W} {H0 : Heap} {a : Nat} (E : E0 p s m c cc nL RX8 k A) (hW : WD k A H0 ws H locs) (q0 : Nat) {fs : List Value} (he : ws[q0]? = some (a, .inr (6, fs))) {v : Value} (hin : meth.name = "<init>") (hn : narrow (tyX8 6) v = v) (hfit : fits (tyX8 6) v = true) (hl : 6 < fs.length) (hdg : decode cc pc = .ok (.putfield 50, 3)) (hws : ws.set q0 (a, .inr (6, fs.set 6 v)) = ws2) (q : ∀ (H1 : Heap) (locs1 : List Loc), WD k A H0 ws2 H1 locs1 → W p l e R s m args below meth c H1 locs1 cells slots Q (F0 m (pc + 3) ls rest)) : W p l e R s m args below meth c H locs cells slots Q (F0 m pc ls (v :: .ref a :: rest)) := by
  subst hws
  exact va_putF (C := RX8) (T := TX8) (N := 9) (ci := 6) (ty := tyX8 6) E.hx E.hb (Ts := wsX80) (fun w hw => E.w (inX8 w hw) (tbl_laysX8 w hw)) (fun _ h => h) tyX8 tyX8_ok nmX8 E.ho E.hK hW.1 hW.2.1 hW.2.2 q0 he rfl 6 (by decide) (E.w tm_396 rfl) (fun _ h => h) rfl hin rfl (tyX8_ok 6 (by decide)) hn hfit hl hdg (fun H1 locs1 h1 h2 h3 => q H1 locs1 ⟨h1, h2, h3⟩)
theorem pf_X8_54 {p : Program} {l : Launch} {e : Env} {R : Room} {s : State} {m : MethodId} {args : Array Value} {below : List Frame} {meth : Method} {c : Code} {H : Heap} {locs : List Loc} {cells slots : Nat} {Q : State → Prop} {cc : ByteArray} {pc nL : Nat} {ls : Array Slot} {rest : List Value} {k : KT} {A : Nat → Prop} {ws ws2 : va_W} {H0 : Heap} {a : Nat} (E : E0 p s m c cc nL RX8 k A) (hW : WD k A H0 ws H locs) (q0 : Nat) {fs : List Value} (he : ws[q0]? = some (a, .inr (6, fs))) {v : Value} (hn : narrow (tyX8 7) v = v) (hfit : fits (tyX8 7) v = true) (hl : 7 < fs.length) (hdg : decode cc pc = .ok (.putfield 54, 3)) (hws : ws.set q0 (a, .inr (6, fs.set 7 v)) = ws2) (q : ∀ (H1 : Heap) (locs1 : List Loc), WD k A H0 ws2 H1 locs1 → W p l e R s m args below meth c H1 locs1 cells slots Q (F0 m (pc + 3) ls rest)) : W p l e R s m args below meth c H locs cells slots Q (F0 m pc ls (v :: .ref a :: rest)) := by
  subst hws
  exact va_put (C := RX8) (T := TX8) (N := 9) (ci := 6) (ty := tyX8 7) E.hx E.hb (Ts := wsX80) (fun w hw => E.w (inX8 w hw) (tbl_laysX8 w hw)) (fun _ h => h) tyX8 tyX8_ok nmX8 E.ho E.hK hW.1 hW.2.1 hW.2.2 q0 he rfl 7 (by decide) (E.w tm_397 rfl) (fun _ h => h) rfl (tyX8_ok 7 (by decide)) hn hfit hl hdg (fun H1 locs1 h1 h2 h3 => q H1 locs1 ⟨h1, h2, h3⟩)
theorem pf_X9_7 {p : Program} {l : Launch} {e : Env} {R : Room} {s : State} {m : MethodId} {args : Array Value} {below : List Frame} {meth : Method} {c : Code} {H : Heap} {locs : List Loc} {cells slots : Nat} {Q : State → Prop} {cc : ByteArray} {pc nL : Nat} {ls : Array Slot} {rest : List Value} {k : KT} {A : Nat → Prop} {ws ws2 : va_W} {H0 : Heap} {a : Nat} (E : E0 p s m c cc nL RX9 k A) (hW : WD k A H0 ws H locs) (q0 : Nat) {fs : List Value} (he : ws[q0]? = some (a, .inr (7, fs))) {v : Value} (hin : meth.name = "<init>") (hn : narrow (tyX9 8) v = v) (hfit : fits (tyX9 8) v = true) (hl : 8 < fs.length) (hdg : decode cc pc = .ok (.putfield 7, 3)) (hws : ws.set q0 (a, .inr (7, fs.set 8 v)) = ws2) (q : ∀ (H1 : Heap) (locs1 : List Loc), WD k A H0 ws2 H1 locs1 → W p l e R s m args below meth c H1 locs1 cells slots Q (F0 m (pc + 3) ls rest)) : W p l e R s m args below meth c H locs cells slots Q (F0 m pc ls (v :: .ref a :: rest)) := by
  subst hws
  exact va_putF (C := RX9) (T := TX9) (N := 41) (ci := 7) (ty := tyX9 8) E.hx E.hb (Ts := wsX90) (fun w hw => E.w (inX9 w hw) (tbl_laysX9 w hw)) (fun _ h => h) tyX9 tyX9_ok nmX9 E.ho E.hK hW.1 hW.2.1 hW.2.2 q0 he rfl 8 (by decide) (E.w tm_1326 rfl) (fun _ h => h) rfl hin rfl (tyX9_ok 8 (by decide)) hn hfit hl hdg (fun H1 locs1 h1 h2 h3 => q H1 locs1 ⟨h1, h2, h3⟩)
theorem pf_X9_13 {p : Program} {l : Launch} {e : Env} {R : Room} {s : State} {m : MethodId} {args : Array Value} {below : List Frame} {meth : Method} {c : Code} {H : Heap} {locs : List Loc} {cells slots : Nat} {Q : State → Prop} {cc : ByteArray} {pc nL : Nat} {ls : Array Slot} {rest : List Value} {k : KT} {A : Nat → Prop} {ws ws2 : va_W} {H0 : Heap} {a : Nat} (E : E0 p s m c cc nL RX9 k A) (hW : WD k A H0 ws H locs) (q0 : Nat) {fs : List Value} (he : ws[q0]? = some (a, .inr (7, fs))) {v : Value} (hin : meth.name = "<init>") (hn : narrow (tyX9 9) v = v) (hfit : fits (tyX9 9) v = true) (hl : 9 < fs.length) (hdg : decode cc pc = .ok (.putfield 13, 3)) (hws : ws.set q0 (a, .inr (7, fs.set 9 v)) = ws2) (q : ∀ (H1 : Heap) (locs1 : List Loc), WD k A H0 ws2 H1 locs1 → W p l e R s m args below meth c H1 locs1 cells slots Q (F0 m (pc + 3) ls rest)) : W p l e R s m args below meth c H locs cells slots Q (F0 m pc ls (v :: .ref a :: rest)) := by
  subst hws
  exact va_putF (C := RX9) (T := TX9) (N := 41) (ci := 7) (ty := tyX9 9) E.hx E.hb (Ts := wsX90) (fun w hw => E.w (inX9 w hw) (tbl_laysX9 w hw)) (fun _ h => h) tyX9 tyX9_ok nmX9 E.ho E.hK hW.1 hW.2.1 hW.2.2 q0 he rfl 9 (by decide) (E.w tm_1327 rfl) (fun _ h => h) rfl hin rfl (tyX9_ok 9 (by decide)) hn hfit hl hdg (fun H1 locs1 h1 h2 h3 => q H1 locs1 ⟨h1, h2, h3⟩)
theorem pf_X9_17 {p : Program} {l : Launch} {e : Env} {R : Room} {s : State} {m : MethodId} {args : Array Value} {below : List Frame} {meth : Method} {c : Code} {H : Heap} {locs : List Loc} {cells slots : Nat} {Q : State → Prop} {cc : ByteArray} {pc nL : Nat} {ls : Array Slot} {rest : List Value} {k : KT} {A : Nat → Prop} {ws ws2 : va_W} {H0 : Heap} {a : Nat} (E : E0 p s m c cc nL RX9 k A) (hW : WD k A H0 ws H locs) (q0 : Nat) {fs : List Value} (he : ws[q0]? = some (a, .inr (7, fs))) {v : Value} (hin : meth.name = "<init>") (hn : narrow (tyX9 10) v = v) (hfit : fits (tyX9 10) v = true) (hl : 10 < fs.length) (hdg : decode cc pc = .ok (.putfield 17, 3)) (hws : ws.set q0 (a, .inr (7, fs.set 10 v)) = ws2) (q : ∀ (H1 : Heap) (locs1 : List Loc), WD k A H0 ws2 H1 locs1 → W p l e R s m args below meth c H1 locs1 cells slots Q (F0 m (pc + 3) ls rest)) : W p l e R s m args below meth c H locs cells slots Q (F0 m pc ls (v :: .ref a :: rest)) := by
  subst hws
  exact va_putF (C := RX9) (T := TX9) (N := 41) (ci := 7) (ty := tyX9 10) E.hx E.hb (Ts := wsX90) (fun w hw => E.w (inX9 w hw) (tbl_laysX9 w hw)) (fun _ h => h) tyX9 tyX9_ok nmX9 E.ho E.hK hW.1 hW.2.1 hW.2.2 q0 he rfl 10 (by decide) (E.w tm_1328 rfl) (fun _ h => h) rfl hin rfl (tyX9_ok 10 (by decide)) hn hfit hl hdg (fun H1 locs1 h1 h2 h3 => q H1 locs1 ⟨h1, h2, h3⟩)
theorem pf_X9_20 {p : Program} {l : Launch} {e : Env} {R : Room} {s : State} {m : MethodId} {args : Array Value} {below : List Frame} {meth : Method} {c : Code} {H : Heap} {locs : List Loc} {cells slots : Nat} {Q : State → Prop} {cc : ByteArray} {pc nL : Nat} {ls : Array Slot} {rest : List Value} {k : KT} {A : Nat → Prop} {ws ws2 : va_W} {H0 : Heap} {a : Nat} (E : E0 p s m c cc nL RX9 k A) (hW : WD k A H0 ws H locs) (q0 : Nat) {fs : List Value} (he : ws[q0]? = some (a, .inr (7, fs))) {v : Value} (hin : meth.name = "<init>") (hn : narrow (tyX9 11) v = v) (hfit : fits (tyX9 11) v = true) (hl : 11 < fs.length) (hdg : decode cc pc = .ok (.putfield 20, 3)) (hws : ws.set q0 (a, .inr (7, fs.set 11 v)) = ws2) (q : ∀ (H1 : Heap) (locs1 : List Loc), WD k A H0 ws2 H1 locs1 → W p l e R s m args below meth c H1 locs1 cells slots Q (F0 m (pc + 3) ls rest)) : W p l e R s m args below meth c H locs cells slots Q (F0 m pc ls (v :: .ref a :: rest)) := by
  subst hws
  exact va_putF (C := RX9) (T := TX9) (N := 41) (ci := 7) (ty := tyX9 11) E.hx E.hb (Ts := wsX90) (fun w hw => E.w (inX9 w hw) (tbl_laysX9 w hw)) (fun _ h => h) tyX9 tyX9_ok nmX9 E.ho E.hK hW.1 hW.2.1 hW.2.2 q0 he rfl 11 (by decide) (E.w tm_1329 rfl) (fun _ h => h) rfl hin rfl (tyX9_ok 11 (by decide)) hn hfit hl hdg (fun H1 locs1 h1 h2 h3 => q H1 locs1 ⟨h1, h2, h3⟩)
theorem pf_X9_23 {p : Program} {l : Launch} {e : Env} {R : Room} {s : State} {m : MethodId} {args : Array Value} {below : List Frame} {meth : Method} {c : Code} {H : Heap} {locs : List Loc} {cells slots : Nat} {Q : State → Prop} {cc : ByteArray} {pc nL : Nat} {ls : Array Slot} {rest : List Value} {k : KT} {A : Nat → Prop} {ws ws2 : va_W} {H0 : Heap} {a : Nat} (E : E0 p s m c cc nL RX9 k A) (hW : WD k A H0 ws H locs) (q0 : Nat) {fs : List Value} (he : ws[q0]? = some (a, .inr (7, fs))) {v : Value} (hin : meth.name = "<init>") (hn : narrow (tyX9 12) v = v) (hfit : fits (tyX9 12) v = true) (hl : 12 < fs.length) (hdg : decode cc pc = .ok (.putfield 23, 3)) (hws : ws.set q0 (a, .inr (7, fs.set 12 v)) = ws2) (q : ∀ (H1 : Heap) (locs1 : List Loc), WD k A H0 ws2 H1 locs1 → W p l e R s m args below meth c H1 locs1 cells slots Q (F0 m (pc + 3) ls rest)) : W p l e R s m args below meth c H locs cells slots Q (F0 m pc ls (v :: .ref a :: rest)) := by
  subst hws
  exact va_putF (C := RX9) (T := TX9) (N := 41) (ci := 7) (ty := tyX9 12) E.hx E.hb (Ts := wsX90) (fun w hw => E.w (inX9 w hw) (tbl_laysX9 w hw)) (fun _ h => h) tyX9 tyX9_ok nmX9 E.ho E.hK hW.1 hW.2.1 hW.2.2 q0 he rfl 12 (by decide) (E.w tm_1330 rfl) (fun _ h => h) rfl hin rfl (tyX9_ok 12 (by decide)) hn hfit hl hdg (fun H1 locs1 h1 h2 h3 => q H1 locs1 ⟨h1, h2, h3⟩)
theorem pf_X9_26 {p : Program} {l : Launch} {e : Env} {R : Room} {s : State} {m : MethodId} {args : Array Value} {below : List Frame} {meth : Method} {c : Code} {H : Heap} {locs : List Loc} {cells slots : Nat} {Q : State → Prop} {cc : ByteArray} {pc nL : Nat} {ls : Array Slot} {rest : List Value} {k : KT} {A : Nat → Prop} {ws ws2 : va_W} {H0 : Heap} {a : Nat} (E : E0 p s m c cc nL RX9 k A) (hW : WD k A H0 ws H locs) (q0 : Nat) {fs : List Value} (he : ws[q0]? = some (a, .inr (7, fs))) {v : Value} (hin : meth.name = "<init>") (hn : narrow (tyX9 13) v = v) (hfit : fits (tyX9 13) v = true) (hl : 13 < fs.length) (hdg : decode cc pc = .ok (.putfield 26, 3)) (hws : ws.set q0 (a, .inr (7, fs.set 13 v)) = ws2) (q : ∀ (H1 : Heap) (locs1 : List Loc), WD k A H0 ws2 H1 locs1 → W p l e R s m args below meth c H1 locs1 cells slots Q (F0 m (pc + 3) ls rest)) : W p l e R s m args below meth c H locs cells slots Q (F0 m pc ls (v :: .ref a :: rest)) := by
  subst hws
  exact va_putF (C := RX9) (T := TX9) (N := 41) (ci := 7) (ty := tyX9 13) E.hx E.hb (Ts := wsX90) (fun w hw => E.w (inX9 w hw) (tbl_laysX9 w hw)) (fun _ h => h) tyX9 tyX9_ok nmX9 E.ho E.hK hW.1 hW.2.1 hW.2.2 q0 he rfl 13 (by decide) (E.w tm_1331 rfl) (fun _ h => h) rfl hin rfl (tyX9_ok 13 (by decide)) hn hfit hl hdg (fun H1 locs1 h1 h2 h3 => q H1 locs1 ⟨h1, h2, h3⟩)
theorem pf_X9_29 {p : Program} {l : Launch} {e : Env} {R : Room} {s : State} {m : MethodId} {args : Array Value} {below : List Frame} {meth : Method} {c : Code} {H : Heap} {locs : List Loc} {cells slots : Nat} {Q : State → Prop} {cc : ByteArray} {pc nL : Nat} {ls : Array Slot} {rest : List Value} {k : KT} {A : Nat → Prop} {ws ws2 : va_W} {H0 : Heap} {a : Nat} (E : E0 p s m c cc nL RX9 k A) (hW : WD k A H0 ws H locs) (q0 : Nat) {fs : List Value} (he : ws[q0]? = some (a, .inr (7, fs))) {v : Value} (hin : meth.name = "<init>") (hn : narrow (tyX9 14) v = v) (hfit : fits (tyX9 14) v = true) (hl : 14 < fs.length) (hdg : decode cc pc = .ok (.putfield 29, 3)) (hws : ws.set q0 (a, .inr (7, fs.set 14 v)) = ws2) (q : ∀ (H1 : Heap) (locs1 : List Loc), WD k A H0 ws2 H1 locs1 → W p l e R s m args below meth c H1 locs1 cells slots Q (F0 m (pc + 3) ls rest)) : W p l e R s m args below meth c H locs cells slots Q (F0 m pc ls (v :: .ref a :: rest)) := by
  subst hws
  exact va_putF (C := RX9) (T := TX9) (N := 41) (ci := 7) (ty := tyX9 14) E.hx E.hb (Ts := wsX90) (fun w hw => E.w (inX9 w hw) (tbl_laysX9 w hw)) (fun _ h => h) tyX9 tyX9_ok nmX9 E.ho E.hK hW.1 hW.2.1 hW.2.2 q0 he rfl 14 (by decide) (E.w tm_1332 rfl) (fun _ h => h) rfl hin rfl (tyX9_ok 14 (by decide)) hn hfit hl hdg (fun H1 locs1 h1 h2 h3 => q H1 locs1 ⟨h1, h2, h3⟩)
theorem pf_X9_39 {p : Program} {l : Launch} {e : Env} {R : Room} {s : State} {m : MethodId} {args : Array Value} {below : List Frame} {meth : Method} {c : Code} {H : Heap} {locs : List Loc} {cells slots : Nat} {Q : State → Prop} {cc : ByteArray} {pc nL : Nat} {ls : Array Slot} {rest : List Value} {k : KT} {A : Nat → Prop} {ws ws2 : va_W} {H0 : Heap} {a : Nat} (E : E0 p s m c cc nL RX9 k A) (hW : WD k A H0 ws H locs) (q0 : Nat) {fs : List Value} (he : ws[q0]? = some (a, .inr (7, fs))) {v : Value} (hin : meth.name = "<init>") (hn : narrow (tyX9 21) v = v) (hfit : fits (tyX9 21) v = true) (hl : 21 < fs.length) (hdg : decode cc pc = .ok (.putfield 39, 3)) (hws : ws.set q0 (a, .inr (7, fs.set 21 v)) = ws2) (q : ∀ (H1 : Heap) (locs1 : List Loc), WD k A H0 ws2 H1 locs1 → W p l e R s m args below meth c H1 locs1 cells slots Q (F0 m (pc + 3) ls rest)) : W p l e R s m args below meth c H locs cells slots Q (F0 m pc ls (v :: .ref a :: rest)) := by
  subst hws
  exact va_putF (C := RX9) (T := TX9) (N := 41) (ci := 7) (ty := tyX9 21) E.hx E.hb (Ts := wsX90) (fun w hw => E.w (inX9 w hw) (tbl_laysX9 w hw)) (fun _ h => h) tyX9 tyX9_ok nmX9 E.ho E.hK hW.1 hW.2.1 hW.2.2 q0 he rfl 21 (by decide) (E.w tm_1339 rfl) (fun _ h => h) rfl hin rfl (tyX9_ok 21 (by decide)) hn hfit hl hdg (fun H1 locs1 h1 h2 h3 => q H1 locs1 ⟨h1, h2, h3⟩)
theorem pf_X9_42 {p : Program} {l : Launch} {e : Env} {R : Room} {s : State} {m : MethodId} {args : Array Value} {below : List Frame} {meth : Method} {c : Code} {H : Heap} {locs : List Loc} {cells slots : Nat} {Q : State → Prop} {cc : ByteArray} {pc nL : Nat} {ls : Array Slot} {rest : List Value} {k : KT} {A : Nat → Prop} {ws ws2 : va_W} {H0 : Heap} {a : Nat} (E : E0 p s m c cc nL RX9 k A) (hW : WD k A H0 ws H locs) (q0 : Nat) {fs : List Value} (he : ws[q0]? = some (a, .inr (7, fs))) {v : Value} (hin : meth.name = "<init>") (hn : narrow (tyX9 22) v = v) (hfit : fits (tyX9 22) v = true) (hl : 22 < fs.length) (hdg : decode cc pc = .ok (.putfield 42, 3)) (hws : ws.set q0 (a, .inr (7, fs.set 22 v)) = ws2) (q : ∀ (H1 : Heap) (locs1 : List Loc), WD k A H0 ws2 H1 locs1 → W p l e R s m args below meth c H1 locs1 cells slots Q (F0 m (pc + 3) ls rest)) : W p l e R s m args below meth c H locs cells slots Q (F0 m pc ls (v :: .ref a :: rest)) := by
  subst hws
  exact va_putF (C := RX9) (T := TX9) (N := 41) (ci := 7) (ty := tyX9 22) E.hx E.hb (Ts := wsX90) (fun w hw => E.w (inX9 w hw) (tbl_laysX9 w hw)) (fun _ h => h) tyX9 tyX9_ok nmX9 E.ho E.hK hW.1 hW.2.1 hW.2.2 q0 he rfl 22 (by decide) (E.w tm_1340 rfl) (fun _ h => h) rfl hin rfl (tyX9_ok 22 (by decide)) hn hfit hl hdg (fun H1 locs1 h1 h2 h3 => q H1 locs1 ⟨h1, h2, h3⟩)
theorem pf_X9_49 {p : Program} {l : Launch} {e : Env} {R : Room} {s : State} {m : MethodId} {args : Array Value} {below : List Frame} {meth : Method} {c : Code} {H : Heap} {locs : List Loc} {cells slots : Nat} {Q : State → Prop} {cc : ByteArray} {pc nL : Nat} {ls : Array Slot} {rest : List Value} {k : KT} {A : Nat → Prop} {ws ws2 : va_W} {H0 : Heap} {a : Nat} (E : E0 p s m c cc nL RX9 k A) (hW : WD k A H0 ws H locs) (q0 : Nat) {fs : List Value} (he : ws[q0]? = some (a, .inr (7, fs))) {v : Value} (hin : meth.name = "<init>") (hn : narrow (tyX9 37) v = v) (hfit : fits (tyX9 37) v = true) (hl : 37 < fs.length) (hdg : decode cc pc = .ok (.putfield 49, 3)) (hws : ws.set q0 (a, .inr (7, fs.set 37 v)) = ws2) (q : ∀ (H1 : Heap) (locs1 : List Loc), WD k A H0 ws2 H1 locs1 → W p l e R s m args below meth c H1 locs1 cells slots Q (F0 m (pc + 3) ls rest)) : W p l e R s m args below meth c H locs cells slots Q (F0 m pc ls (v :: .ref a :: rest)) := by
  subst hws
  exact va_putF (C := RX9) (T := TX9) (N := 41) (ci := 7) (ty := tyX9 37) E.hx E.hb (Ts := wsX90) (fun w hw => E.w (inX9 w hw) (tbl_laysX9 w hw)) (fun _ h => h) tyX9 tyX9_ok nmX9 E.ho E.hK hW.1 hW.2.1 hW.2.2 q0 he rfl 37 (by decide) (E.w tm_1355 rfl) (fun _ h => h) rfl hin rfl (tyX9_ok 37 (by decide)) hn hfit hl hdg (fun H1 locs1 h1 h2 h3 => q H1 locs1 ⟨h1, h2, h3⟩)
theorem pf_X9_52 {p : Program} {l : Launch} {e : Env} {R : Room} {s : State} {m : MethodId} {args : Array Value} {below : List Frame} {meth : Method} {c : Code} {H : Heap} {locs : List Loc} {cells slots : Nat} {Q : State → Prop} {cc : ByteArray} {pc nL : Nat} {ls : Array Slot} {rest : List Value} {k : KT} {A : Nat → Prop} {ws ws2 : va_W} {H0 : Heap} {a : Nat} (E : E0 p s m c cc nL RX9 k A) (hW : WD k A H0 ws H locs) (q0 : Nat) {fs : List Value} (he : ws[q0]? = some (a, .inr (7, fs))) {v : Value} (hin : meth.name = "<init>") (hn : narrow (tyX9 38) v = v) (hfit : fits (tyX9 38) v = true) (hl : 38 < fs.length) (hdg : decode cc pc = .ok (.putfield 52, 3)) (hws : ws.set q0 (a, .inr (7, fs.set 38 v)) = ws2) (q : ∀ (H1 : Heap) (locs1 : List Loc), WD k A H0 ws2 H1 locs1 → W p l e R s m args below meth c H1 locs1 cells slots Q (F0 m (pc + 3) ls rest)) : W p l e R s m args below meth c H locs cells slots Q (F0 m pc ls (v :: .ref a :: rest)) := by
  subst hws
  exact va_putF (C := RX9) (T := TX9) (N := 41) (ci := 7) (ty := tyX9 38) E.hx E.hb (Ts := wsX90) (fun w hw => E.w (inX9 w hw) (tbl_laysX9 w hw)) (fun _ h => h) tyX9 tyX9_ok nmX9 E.ho E.hK hW.1 hW.2.1 hW.2.2 q0 he rfl 38 (by decide) (E.w tm_1356 rfl) (fun _ h => h) rfl hin rfl (tyX9_ok 38 (by decide)) hn hfit hl hdg (fun H1 locs1 h1 h2 h3 => q H1 locs1 ⟨h1, h2, h3⟩)
theorem pf_X9_55 {p : Program} {l : Launch} {e : Env} {R : Room} {s : State} {m : MethodId} {args : Array Value} {below : List Frame} {meth : Method} {c : Code} {H : Heap} {locs : List Loc} {cells slots : Nat} {Q : State → Prop} {cc : ByteArray} {pc nL : Nat} {ls : Array Slot} {rest : List Value} {k : KT} {A : Nat → Prop} {ws ws2 : va_W} {H0 : Heap} {a : Nat} (E : E0 p s m c cc nL RX9 k A) (hW : WD k A H0 ws H locs) (q0 : Nat) {fs : List Value} (he : ws[q0]? = some (a, .inr (7, fs))) {v : Value} (hin : meth.name = "<init>") (hn : narrow (tyX9 39) v = v) (hfit : fits (tyX9 39) v = true) (hl : 39 < fs.length) (hdg : decode cc pc = .ok (.putfield 55, 3)) (hws : ws.set q0 (a, .inr (7, fs.set 39 v)) = ws2) (q : ∀ (H1 : Heap) (locs1 : List Loc), WD k A H0 ws2 H1 locs1 → W p l e R s m args below meth c H1 locs1 cells slots Q (F0 m (pc + 3) ls rest)) : W p l e R s m args below meth c H locs cells slots Q (F0 m pc ls (v :: .ref a :: rest)) := by
  subst hws
  exact va_putF (C := RX9) (T := TX9) (N := 41) (ci := 7) (ty := tyX9 39) E.hx E.hb (Ts := wsX90) (fun w hw => E.w (inX9 w hw) (tbl_laysX9 w hw)) (fun _ h => h) tyX9 tyX9_ok nmX9 E.ho E.hK hW.1 hW.2.1 hW.2.2 q0 he rfl 39 (by decide) (E.w tm_1357 rfl) (fun _ h => h) rfl hin rfl (tyX9_ok 39 (by decide)) hn hfit hl hdg (fun H1 locs1 h1 h2 h3 => q H1 locs1 ⟨h1, h2, h3⟩)
theorem il_X5_35 : IL RX5 35 yX6_init cX6_init 3 2 := ⟨⟨tm_168, tm_169, tm_112, tm_170⟩, by decide +kernel⟩
theorem il_X2_49 : IL RX2 49 yX6_init cX6_init 3 2 := ⟨⟨tm_225, tm_169, tm_112, tm_170⟩, by decide +kernel⟩
theorem il_X4_11 : ILN RX4 "MemoryCourt" 11 yX5_init cX5_init 1 0 := ⟨⟨tm_298, tm_163, tm_111, tm_164⟩, by decide +kernel⟩
theorem il_X8_11 : IL RX8 11 yX1_init cX1_init 2 1 := ⟨⟨tm_143, tm_144, tm_109, tm_145⟩, by decide +kernel⟩
theorem il_X8_23 : ILN RX8 "MemoryCourt" 23 yX5_init cX5_init 1 0 := ⟨⟨tm_162, tm_163, tm_111, tm_164⟩, by decide +kernel⟩
theorem il_X8_30 : ILN RX8 "MemoryCourt" 30 yX2_init cX2_init 1 0 := ⟨⟨tm_220, tm_221, tm_113, tm_222⟩, by decide +kernel⟩
theorem il_X8_40 : IL RX8 40 yX4_init cX4_init 3 2 := ⟨⟨tm_293, tm_294, tm_114, tm_295⟩, by decide +kernel⟩
theorem il_X8_49 : ILN RX8 "MemoryCourt" 49 yX3_init cX3_init 1 0 := ⟨⟨tm_343, tm_344, tm_117, tm_345⟩, by decide +kernel⟩
theorem vl_X8_71 : VL RX8 71 RX5 yX5_begin cX5_begin 2 none 1 := ⟨⟨tm_362, tm_363, tm_364, tm_111, tm_365⟩, by decide +kernel⟩
theorem vl_X8_74 : VL RX8 74 RX2 yX2_begin cX2_begin 3 none 1 := ⟨⟨tm_376, tm_377, tm_378, tm_113, tm_379⟩, by decide +kernel⟩
theorem dX1_init_0 : decode cX1_init 0 = .ok (.aload_n 0, 1) := by decide +kernel
theorem dX1_init_1 : decode cX1_init 1 = .ok (.invokespecial 3, 3) := by decide +kernel
theorem dX1_init_4 : decode cX1_init 4 = .ok (.aload_n 0, 1) := by decide +kernel
theorem dX1_init_5 : decode cX1_init 5 = .ok (.iconst 0, 1) := by decide +kernel
theorem dX1_init_6 : decode cX1_init 6 = .ok (.putfield 9, 3) := by decide +kernel
theorem dX1_init_9 : decode cX1_init 9 = .ok (.aload_n 0, 1) := by decide +kernel
theorem dX1_init_10 : decode cX1_init 10 = .ok (.iconst 0, 1) := by decide +kernel
theorem dX1_init_11 : decode cX1_init 11 = .ok (.iload_n 1, 1) := by decide +kernel
theorem dX1_init_12 : decode cX1_init 12 = .ok (.invokestatic 15, 3) := by decide +kernel
theorem dX1_init_15 : decode cX1_init 15 = .ok (.newarray .byte, 2) := by decide +kernel
theorem dX1_init_17 : decode cX1_init 17 = .ok (.putfield 21, 3) := by decide +kernel
theorem dX1_init_20 : decode cX1_init 20 = .ok (.return_, 1) := by decide +kernel
theorem dX6_init_0 : decode cX6_init 0 = .ok (.aload_n 0, 1) := by decide +kernel
theorem dX6_init_1 : decode cX6_init 1 = .ok (.invokespecial 1, 3) := by decide +kernel
theorem dX6_init_4 : decode cX6_init 4 = .ok (.aload_n 0, 1) := by decide +kernel
theorem dX6_init_5 : decode cX6_init 5 = .ok (.iload_n 2, 1) := by decide +kernel
theorem dX6_init_6 : decode cX6_init 6 = .ok (.putfield 7, 3) := by decide +kernel
theorem dX6_init_9 : decode cX6_init 9 = .ok (.aload_n 0, 1) := by decide +kernel
theorem dX6_init_10 : decode cX6_init 10 = .ok (.iconst 0, 1) := by decide +kernel
theorem dX6_init_11 : decode cX6_init 11 = .ok (.iload_n 1, 1) := by decide +kernel
theorem dX6_init_12 : decode cX6_init 12 = .ok (.iload_n 2, 1) := by decide +kernel
theorem dX6_init_13 : decode cX6_init 13 = .ok (.imul, 1) := by decide +kernel
theorem dX6_init_14 : decode cX6_init 14 = .ok (.invokestatic 13, 3) := by decide +kernel
theorem dX6_init_17 : decode cX6_init 17 = .ok (.newarray .int, 2) := by decide +kernel
theorem dX6_init_19 : decode cX6_init 19 = .ok (.putfield 19, 3) := by decide +kernel
theorem dX6_init_22 : decode cX6_init 22 = .ok (.return_, 1) := by decide +kernel
theorem dX5_init_0 : decode cX5_init 0 = .ok (.aload_n 0, 1) := by decide +kernel
theorem dX5_init_1 : decode cX5_init 1 = .ok (.invokespecial 3, 3) := by decide +kernel
theorem dX5_init_4 : decode cX5_init 4 = .ok (.aload_n 0, 1) := by decide +kernel
theorem dX5_init_5 : decode cX5_init 5 = .ok (.iconst 0, 1) := by decide +kernel
theorem dX5_init_6 : decode cX5_init 6 = .ok (.putfield 9, 3) := by decide +kernel
theorem dX5_init_9 : decode cX5_init 9 = .ok (.aload_n 0, 1) := by decide +kernel
theorem dX5_init_10 : decode cX5_init 10 = .ok (.iconst 0, 1) := by decide +kernel
theorem dX5_init_11 : decode cX5_init 11 = .ok (.putfield 15, 3) := by decide +kernel
theorem dX5_init_14 : decode cX5_init 14 = .ok (.aload_n 0, 1) := by decide +kernel
theorem dX5_init_15 : decode cX5_init 15 = .ok (.iconst 0, 1) := by decide +kernel
theorem dX5_init_16 : decode cX5_init 16 = .ok (.putfield 18, 3) := by decide +kernel
theorem dX5_init_19 : decode cX5_init 19 = .ok (.aload_n 0, 1) := by decide +kernel
theorem dX5_init_20 : decode cX5_init 20 = .ok (.iconst 0, 1) := by decide +kernel
theorem dX5_init_21 : decode cX5_init 21 = .ok (.putfield 21, 3) := by decide +kernel
theorem dX5_init_24 : decode cX5_init 24 = .ok (.aload_n 0, 1) := by decide +kernel
theorem dX5_init_25 : decode cX5_init 25 = .ok (.iconst 0, 1) := by decide +kernel
theorem dX5_init_26 : decode cX5_init 26 = .ok (.putfield 24, 3) := by decide +kernel
theorem dX5_init_29 : decode cX5_init 29 = .ok (.aload_n 0, 1) := by decide +kernel
theorem dX5_init_30 : decode cX5_init 30 = .ok (.iconst 0, 1) := by decide +kernel
theorem dX5_init_31 : decode cX5_init 31 = .ok (.putfield 27, 3) := by decide +kernel
theorem dX5_init_34 : decode cX5_init 34 = .ok (.aload_n 0, 1) := by decide +kernel
theorem dX5_init_35 : decode cX5_init 35 = .ok (.iconst 0, 1) := by decide +kernel
theorem dX5_init_36 : decode cX5_init 36 = .ok (.putfield 30, 3) := by decide +kernel
theorem dX5_init_39 : decode cX5_init 39 = .ok (.aload_n 0, 1) := by decide +kernel
theorem dX5_init_40 : decode cX5_init 40 = .ok (.new 33, 3) := by decide +kernel
theorem dX5_init_43 : decode cX5_init 43 = .ok (.dup, 1) := by decide +kernel
theorem dX5_init_44 : decode cX5_init 44 = .ok (.bipush 8, 2) := by decide +kernel
theorem dX5_init_46 : decode cX5_init 46 = .ok (.bipush 7, 2) := by decide +kernel
theorem dX5_init_48 : decode cX5_init 48 = .ok (.invokespecial 35, 3) := by decide +kernel
theorem dX5_init_51 : decode cX5_init 51 = .ok (.putfield 38, 3) := by decide +kernel
theorem dX5_init_54 : decode cX5_init 54 = .ok (.return_, 1) := by decide +kernel
theorem dX2_init_0 : decode cX2_init 0 = .ok (.aload_n 0, 1) := by decide +kernel
theorem dX2_init_1 : decode cX2_init 1 = .ok (.invokespecial 3, 3) := by decide +kernel
theorem dX2_init_4 : decode cX2_init 4 = .ok (.aload_n 0, 1) := by decide +kernel
theorem dX2_init_5 : decode cX2_init 5 = .ok (.iconst 0, 1) := by decide +kernel
theorem dX2_init_6 : decode cX2_init 6 = .ok (.putfield 9, 3) := by decide +kernel
theorem dX2_init_9 : decode cX2_init 9 = .ok (.aload_n 0, 1) := by decide +kernel
theorem dX2_init_10 : decode cX2_init 10 = .ok (.iconst 0, 1) := by decide +kernel
theorem dX2_init_11 : decode cX2_init 11 = .ok (.putfield 15, 3) := by decide +kernel
theorem dX2_init_14 : decode cX2_init 14 = .ok (.aload_n 0, 1) := by decide +kernel
theorem dX2_init_15 : decode cX2_init 15 = .ok (.iconst 0, 1) := by decide +kernel
theorem dX2_init_16 : decode cX2_init 16 = .ok (.putfield 18, 3) := by decide +kernel
theorem dX2_init_19 : decode cX2_init 19 = .ok (.aload_n 0, 1) := by decide +kernel
theorem dX2_init_20 : decode cX2_init 20 = .ok (.iconst 0, 1) := by decide +kernel
theorem dX2_init_21 : decode cX2_init 21 = .ok (.putfield 21, 3) := by decide +kernel
theorem dX2_init_24 : decode cX2_init 24 = .ok (.aload_n 0, 1) := by decide +kernel
theorem dX2_init_25 : decode cX2_init 25 = .ok (.iconst 0, 1) := by decide +kernel
theorem dX2_init_26 : decode cX2_init 26 = .ok (.putfield 24, 3) := by decide +kernel
theorem dX2_init_29 : decode cX2_init 29 = .ok (.aload_n 0, 1) := by decide +kernel
theorem dX2_init_30 : decode cX2_init 30 = .ok (.iconst 0, 1) := by decide +kernel
theorem dX2_init_31 : decode cX2_init 31 = .ok (.putfield 27, 3) := by decide +kernel
theorem dX2_init_34 : decode cX2_init 34 = .ok (.aload_n 0, 1) := by decide +kernel
theorem dX2_init_35 : decode cX2_init 35 = .ok (.iconst 0, 1) := by decide +kernel
theorem dX2_init_36 : decode cX2_init 36 = .ok (.putfield 30, 3) := by decide +kernel
theorem dX2_init_39 : decode cX2_init 39 = .ok (.aload_n 0, 1) := by decide +kernel
theorem dX2_init_40 : decode cX2_init 40 = .ok (.iconst 0, 1) := by decide +kernel
theorem dX2_init_41 : decode cX2_init 41 = .ok (.putfield 33, 3) := by decide +kernel
theorem dX2_init_44 : decode cX2_init 44 = .ok (.aload_n 0, 1) := by decide +kernel
theorem dX2_init_45 : decode cX2_init 45 = .ok (.iconst 0, 1) := by decide +kernel
theorem dX2_init_46 : decode cX2_init 46 = .ok (.putfield 36, 3) := by decide +kernel
theorem dX2_init_49 : decode cX2_init 49 = .ok (.aload_n 0, 1) := by decide +kernel
theorem dX2_init_50 : decode cX2_init 50 = .ok (.sipush 251, 3) := by decide +kernel
theorem dX2_init_53 : decode cX2_init 53 = .ok (.newarray .long, 2) := by decide +kernel
theorem dX2_init_55 : decode cX2_init 55 = .ok (.putfield 39, 3) := by decide +kernel
theorem dX2_init_58 : decode cX2_init 58 = .ok (.aload_n 0, 1) := by decide +kernel
theorem dX2_init_59 : decode cX2_init 59 = .ok (.bipush 64, 2) := by decide +kernel
theorem dX2_init_61 : decode cX2_init 61 = .ok (.newarray .int, 2) := by decide +kernel
theorem dX2_init_63 : decode cX2_init 63 = .ok (.putfield 43, 3) := by decide +kernel
theorem dX2_init_66 : decode cX2_init 66 = .ok (.aload_n 0, 1) := by decide +kernel
theorem dX2_init_67 : decode cX2_init 67 = .ok (.new 47, 3) := by decide +kernel
theorem dX2_init_70 : decode cX2_init 70 = .ok (.dup, 1) := by decide +kernel
theorem dX2_init_71 : decode cX2_init 71 = .ok (.bipush 8, 2) := by decide +kernel
theorem dX2_init_73 : decode cX2_init 73 = .ok (.iconst 5, 1) := by decide +kernel
theorem dX2_init_74 : decode cX2_init 74 = .ok (.invokespecial 49, 3) := by decide +kernel
theorem dX2_init_77 : decode cX2_init 77 = .ok (.putfield 52, 3) := by decide +kernel
theorem dX2_init_80 : decode cX2_init 80 = .ok (.aload_n 0, 1) := by decide +kernel
theorem dX2_init_81 : decode cX2_init 81 = .ok (.new 47, 3) := by decide +kernel
theorem dX2_init_84 : decode cX2_init 84 = .ok (.dup, 1) := by decide +kernel
theorem dX2_init_85 : decode cX2_init 85 = .ok (.bipush 80, 2) := by decide +kernel
theorem dX2_init_87 : decode cX2_init 87 = .ok (.bipush 8, 2) := by decide +kernel
theorem dX2_init_89 : decode cX2_init 89 = .ok (.invokespecial 49, 3) := by decide +kernel
theorem dX2_init_92 : decode cX2_init 92 = .ok (.putfield 56, 3) := by decide +kernel
theorem dX2_init_95 : decode cX2_init 95 = .ok (.aload_n 0, 1) := by decide +kernel
theorem dX2_init_96 : decode cX2_init 96 = .ok (.new 47, 3) := by decide +kernel
theorem dX2_init_99 : decode cX2_init 99 = .ok (.dup, 1) := by decide +kernel
theorem dX2_init_100 : decode cX2_init 100 = .ok (.bipush 60, 2) := by decide +kernel
theorem dX2_init_102 : decode cX2_init 102 = .ok (.bipush 7, 2) := by decide +kernel
theorem dX2_init_104 : decode cX2_init 104 = .ok (.invokespecial 49, 3) := by decide +kernel
theorem dX2_init_107 : decode cX2_init 107 = .ok (.putfield 59, 3) := by decide +kernel
theorem dX2_init_110 : decode cX2_init 110 = .ok (.aload_n 0, 1) := by decide +kernel
theorem dX2_init_111 : decode cX2_init 111 = .ok (.new 47, 3) := by decide +kernel
theorem dX2_init_114 : decode cX2_init 114 = .ok (.dup, 1) := by decide +kernel
theorem dX2_init_115 : decode cX2_init 115 = .ok (.bipush 40, 2) := by decide +kernel
theorem dX2_init_117 : decode cX2_init 117 = .ok (.bipush 8, 2) := by decide +kernel
theorem dX2_init_119 : decode cX2_init 119 = .ok (.invokespecial 49, 3) := by decide +kernel
theorem dX2_init_122 : decode cX2_init 122 = .ok (.putfield 62, 3) := by decide +kernel
theorem dX2_init_125 : decode cX2_init 125 = .ok (.aload_n 0, 1) := by decide +kernel
theorem dX2_init_126 : decode cX2_init 126 = .ok (.bipush 60, 2) := by decide +kernel
theorem dX2_init_128 : decode cX2_init 128 = .ok (.newarray .int, 2) := by decide +kernel
theorem dX2_init_130 : decode cX2_init 130 = .ok (.putfield 65, 3) := by decide +kernel
theorem dX2_init_133 : decode cX2_init 133 = .ok (.return_, 1) := by decide +kernel
theorem dX3_init_0 : decode cX3_init 0 = .ok (.aload_n 0, 1) := by decide +kernel
theorem dX3_init_1 : decode cX3_init 1 = .ok (.invokespecial 3, 3) := by decide +kernel
theorem dX3_init_4 : decode cX3_init 4 = .ok (.aload_n 0, 1) := by decide +kernel
theorem dX3_init_5 : decode cX3_init 5 = .ok (.bipush 8, 2) := by decide +kernel
theorem dX3_init_7 : decode cX3_init 7 = .ok (.anewarray 9, 3) := by decide +kernel
theorem dX3_init_10 : decode cX3_init 10 = .ok (.putfield 11, 3) := by decide +kernel
theorem dX3_init_13 : decode cX3_init 13 = .ok (.aload_n 0, 1) := by decide +kernel
theorem dX3_init_14 : decode cX3_init 14 = .ok (.iconst 0, 1) := by decide +kernel
theorem dX3_init_15 : decode cX3_init 15 = .ok (.putfield 17, 3) := by decide +kernel
theorem dX3_init_18 : decode cX3_init 18 = .ok (.aload_n 0, 1) := by decide +kernel
theorem dX3_init_19 : decode cX3_init 19 = .ok (.iconst 0, 1) := by decide +kernel
theorem dX3_init_20 : decode cX3_init 20 = .ok (.putfield 21, 3) := by decide +kernel
theorem dX3_init_23 : decode cX3_init 23 = .ok (.return_, 1) := by decide +kernel
theorem dX4_init_0 : decode cX4_init 0 = .ok (.aload_n 0, 1) := by decide +kernel
theorem dX4_init_1 : decode cX4_init 1 = .ok (.invokespecial 3, 3) := by decide +kernel
theorem dX4_init_4 : decode cX4_init 4 = .ok (.aload_n 0, 1) := by decide +kernel
theorem dX4_init_5 : decode cX4_init 5 = .ok (.new 9, 3) := by decide +kernel
theorem dX4_init_8 : decode cX4_init 8 = .ok (.dup, 1) := by decide +kernel
theorem dX4_init_9 : decode cX4_init 9 = .ok (.invokespecial 11, 3) := by decide +kernel
theorem dX4_init_12 : decode cX4_init 12 = .ok (.putfield 12, 3) := by decide +kernel
theorem dX4_init_15 : decode cX4_init 15 = .ok (.aload_n 0, 1) := by decide +kernel
theorem dX4_init_16 : decode cX4_init 16 = .ok (.iconst 0, 1) := by decide +kernel
theorem dX4_init_17 : decode cX4_init 17 = .ok (.putfield 18, 3) := by decide +kernel
theorem dX4_init_20 : decode cX4_init 20 = .ok (.aload_n 0, 1) := by decide +kernel
theorem dX4_init_21 : decode cX4_init 21 = .ok (.iconst (-1), 1) := by decide +kernel
theorem dX4_init_22 : decode cX4_init 22 = .ok (.putfield 22, 3) := by decide +kernel
theorem dX4_init_25 : decode cX4_init 25 = .ok (.aload_n 0, 1) := by decide +kernel
theorem dX4_init_26 : decode cX4_init 26 = .ok (.iconst 0, 1) := by decide +kernel
theorem dX4_init_27 : decode cX4_init 27 = .ok (.putfield 25, 3) := by decide +kernel
theorem dX4_init_30 : decode cX4_init 30 = .ok (.aload_n 0, 1) := by decide +kernel
theorem dX4_init_31 : decode cX4_init 31 = .ok (.iconst 0, 1) := by decide +kernel
theorem dX4_init_32 : decode cX4_init 32 = .ok (.putfield 28, 3) := by decide +kernel
theorem dX4_init_35 : decode cX4_init 35 = .ok (.aload_n 0, 1) := by decide +kernel
theorem dX4_init_36 : decode cX4_init 36 = .ok (.iconst 0, 1) := by decide +kernel
theorem dX4_init_37 : decode cX4_init 37 = .ok (.putfield 31, 3) := by decide +kernel
theorem dX4_init_40 : decode cX4_init 40 = .ok (.aload_n 0, 1) := by decide +kernel
theorem dX4_init_41 : decode cX4_init 41 = .ok (.getstatic 34, 3) := by decide +kernel
theorem dX4_init_44 : decode cX4_init 44 = .ok (.putfield 40, 3) := by decide +kernel
theorem dX4_init_47 : decode cX4_init 47 = .ok (.aload_n 0, 1) := by decide +kernel
theorem dX4_init_48 : decode cX4_init 48 = .ok (.iconst 0, 1) := by decide +kernel
theorem dX4_init_49 : decode cX4_init 49 = .ok (.putfield 43, 3) := by decide +kernel
theorem dX4_init_52 : decode cX4_init 52 = .ok (.aload_n 0, 1) := by decide +kernel
theorem dX4_init_53 : decode cX4_init 53 = .ok (.iconst 0, 1) := by decide +kernel
theorem dX4_init_54 : decode cX4_init 54 = .ok (.putfield 46, 3) := by decide +kernel
theorem dX4_init_57 : decode cX4_init 57 = .ok (.aload_n 0, 1) := by decide +kernel
theorem dX4_init_58 : decode cX4_init 58 = .ok (.iconst 0, 1) := by decide +kernel
theorem dX4_init_59 : decode cX4_init 59 = .ok (.putfield 49, 3) := by decide +kernel
theorem dX4_init_62 : decode cX4_init 62 = .ok (.aload_n 0, 1) := by decide +kernel
theorem dX4_init_63 : decode cX4_init 63 = .ok (.aload_n 1, 1) := by decide +kernel
theorem dX4_init_64 : decode cX4_init 64 = .ok (.putfield 52, 3) := by decide +kernel
theorem dX4_init_67 : decode cX4_init 67 = .ok (.aload_n 0, 1) := by decide +kernel
theorem dX4_init_68 : decode cX4_init 68 = .ok (.aload_n 2, 1) := by decide +kernel
theorem dX4_init_69 : decode cX4_init 69 = .ok (.putfield 56, 3) := by decide +kernel
theorem dX4_init_72 : decode cX4_init 72 = .ok (.return_, 1) := by decide +kernel
theorem dX8_init_0 : decode cX8_init 0 = .ok (.aload_n 0, 1) := by decide +kernel
theorem dX8_init_1 : decode cX8_init 1 = .ok (.invokespecial 3, 3) := by decide +kernel
theorem dX8_init_4 : decode cX8_init 4 = .ok (.aload_n 0, 1) := by decide +kernel
theorem dX8_init_5 : decode cX8_init 5 = .ok (.new 9, 3) := by decide +kernel
theorem dX8_init_8 : decode cX8_init 8 = .ok (.dup, 1) := by decide +kernel
theorem dX8_init_9 : decode cX8_init 9 = .ok (.sipush 600, 3) := by decide +kernel
theorem dX8_init_12 : decode cX8_init 12 = .ok (.invokespecial 11, 3) := by decide +kernel
theorem dX8_init_15 : decode cX8_init 15 = .ok (.putfield 14, 3) := by decide +kernel
theorem dX8_init_18 : decode cX8_init 18 = .ok (.aload_n 0, 1) := by decide +kernel
theorem dX8_init_19 : decode cX8_init 19 = .ok (.new 9, 3) := by decide +kernel
theorem dX8_init_22 : decode cX8_init 22 = .ok (.dup, 1) := by decide +kernel
theorem dX8_init_23 : decode cX8_init 23 = .ok (.sipush 1024, 3) := by decide +kernel
theorem dX8_init_26 : decode cX8_init 26 = .ok (.invokespecial 11, 3) := by decide +kernel
theorem dX8_init_29 : decode cX8_init 29 = .ok (.putfield 18, 3) := by decide +kernel
theorem dX8_init_32 : decode cX8_init 32 = .ok (.aload_n 0, 1) := by decide +kernel
theorem dX8_init_33 : decode cX8_init 33 = .ok (.new 21, 3) := by decide +kernel
theorem dX8_init_36 : decode cX8_init 36 = .ok (.dup, 1) := by decide +kernel
theorem dX8_init_37 : decode cX8_init 37 = .ok (.invokespecial 23, 3) := by decide +kernel
theorem dX8_init_40 : decode cX8_init 40 = .ok (.putfield 24, 3) := by decide +kernel
theorem dX8_init_43 : decode cX8_init 43 = .ok (.aload_n 0, 1) := by decide +kernel
theorem dX8_init_44 : decode cX8_init 44 = .ok (.new 28, 3) := by decide +kernel
theorem dX8_init_47 : decode cX8_init 47 = .ok (.dup, 1) := by decide +kernel
theorem dX8_init_48 : decode cX8_init 48 = .ok (.invokespecial 30, 3) := by decide +kernel
theorem dX8_init_51 : decode cX8_init 51 = .ok (.putfield 31, 3) := by decide +kernel
theorem dX8_init_54 : decode cX8_init 54 = .ok (.aload_n 0, 1) := by decide +kernel
theorem dX8_init_55 : decode cX8_init 55 = .ok (.new 28, 3) := by decide +kernel
theorem dX8_init_58 : decode cX8_init 58 = .ok (.dup, 1) := by decide +kernel
theorem dX8_init_59 : decode cX8_init 59 = .ok (.invokespecial 30, 3) := by decide +kernel
theorem dX8_init_62 : decode cX8_init 62 = .ok (.putfield 35, 3) := by decide +kernel
theorem dX8_init_65 : decode cX8_init 65 = .ok (.aload_n 0, 1) := by decide +kernel
theorem dX8_init_66 : decode cX8_init 66 = .ok (.new 38, 3) := by decide +kernel
theorem dX8_init_69 : decode cX8_init 69 = .ok (.dup, 1) := by decide +kernel
theorem dX8_init_70 : decode cX8_init 70 = .ok (.aload_n 0, 1) := by decide +kernel
theorem dX8_init_71 : decode cX8_init 71 = .ok (.getfield 14, 3) := by decide +kernel
theorem dX8_init_74 : decode cX8_init 74 = .ok (.aload_n 0, 1) := by decide +kernel
theorem dX8_init_75 : decode cX8_init 75 = .ok (.getfield 35, 3) := by decide +kernel
theorem dX8_init_78 : decode cX8_init 78 = .ok (.invokespecial 40, 3) := by decide +kernel
theorem dX8_init_81 : decode cX8_init 81 = .ok (.putfield 43, 3) := by decide +kernel
theorem dX8_init_84 : decode cX8_init 84 = .ok (.aload_n 0, 1) := by decide +kernel
theorem dX8_init_85 : decode cX8_init 85 = .ok (.new 47, 3) := by decide +kernel
theorem dX8_init_88 : decode cX8_init 88 = .ok (.dup, 1) := by decide +kernel
theorem dX8_init_89 : decode cX8_init 89 = .ok (.invokespecial 49, 3) := by decide +kernel
theorem dX8_init_92 : decode cX8_init 92 = .ok (.putfield 50, 3) := by decide +kernel
theorem dX8_init_95 : decode cX8_init 95 = .ok (.aload_n 0, 1) := by decide +kernel
theorem dX8_init_96 : decode cX8_init 96 = .ok (.aconst_null, 1) := by decide +kernel
theorem dX8_init_97 : decode cX8_init 97 = .ok (.putfield 54, 3) := by decide +kernel
theorem dX8_init_100 : decode cX8_init 100 = .ok (.aload_n 0, 1) := by decide +kernel
theorem dX8_init_101 : decode cX8_init 101 = .ok (.iconst 0, 1) := by decide +kernel
theorem dX8_init_102 : decode cX8_init 102 = .ok (.putfield 57, 3) := by decide +kernel
theorem dX8_init_105 : decode cX8_init 105 = .ok (.aload_n 0, 1) := by decide +kernel
theorem dX8_init_106 : decode cX8_init 106 = .ok (.getfield 24, 3) := by decide +kernel
theorem dX8_init_109 : decode cX8_init 109 = .ok (.getstatic 61, 3) := by decide +kernel
theorem dX8_init_112 : decode cX8_init 112 = .ok (.getfield 67, 3) := by decide +kernel
theorem dX8_init_115 : decode cX8_init 115 = .ok (.invokevirtual 71, 3) := by decide +kernel
theorem dX8_init_118 : decode cX8_init 118 = .ok (.aload_n 0, 1) := by decide +kernel
theorem dX8_init_119 : decode cX8_init 119 = .ok (.getfield 31, 3) := by decide +kernel
theorem dX8_init_122 : decode cX8_init 122 = .ok (.getstatic 61, 3) := by decide +kernel
theorem dX8_init_125 : decode cX8_init 125 = .ok (.getfield 67, 3) := by decide +kernel
theorem dX8_init_128 : decode cX8_init 128 = .ok (.invokevirtual 74, 3) := by decide +kernel
theorem dX8_init_131 : decode cX8_init 131 = .ok (.return_, 1) := by decide +kernel
theorem dX9_init_0 : decode cX9_init 0 = .ok (.aload_n 0, 1) := by decide +kernel
theorem dX9_init_1 : decode cX9_init 1 = .ok (.invokespecial 1, 3) := by decide +kernel
theorem dX9_init_4 : decode cX9_init 4 = .ok (.aload_n 0, 1) := by decide +kernel
theorem dX9_init_5 : decode cX9_init 5 = .ok (.bipush 8, 2) := by decide +kernel
theorem dX9_init_7 : decode cX9_init 7 = .ok (.newarray .long, 2) := by decide +kernel
theorem dX9_init_9 : decode cX9_init 9 = .ok (.putfield 7, 3) := by decide +kernel
theorem dX9_init_12 : decode cX9_init 12 = .ok (.aload_n 0, 1) := by decide +kernel
theorem dX9_init_13 : decode cX9_init 13 = .ok (.sipush 1846, 3) := by decide +kernel
theorem dX9_init_16 : decode cX9_init 16 = .ok (.newarray .int, 2) := by decide +kernel
theorem dX9_init_18 : decode cX9_init 18 = .ok (.putfield 13, 3) := by decide +kernel
theorem dX9_init_21 : decode cX9_init 21 = .ok (.aload_n 0, 1) := by decide +kernel
theorem dX9_init_22 : decode cX9_init 22 = .ok (.sipush 1846, 3) := by decide +kernel
theorem dX9_init_25 : decode cX9_init 25 = .ok (.newarray .int, 2) := by decide +kernel
theorem dX9_init_27 : decode cX9_init 27 = .ok (.putfield 17, 3) := by decide +kernel
theorem dX9_init_30 : decode cX9_init 30 = .ok (.aload_n 0, 1) := by decide +kernel
theorem dX9_init_31 : decode cX9_init 31 = .ok (.sipush 1846, 3) := by decide +kernel
theorem dX9_init_34 : decode cX9_init 34 = .ok (.newarray .int, 2) := by decide +kernel
theorem dX9_init_36 : decode cX9_init 36 = .ok (.putfield 20, 3) := by decide +kernel
theorem dX9_init_39 : decode cX9_init 39 = .ok (.aload_n 0, 1) := by decide +kernel
theorem dX9_init_40 : decode cX9_init 40 = .ok (.sipush 1846, 3) := by decide +kernel
theorem dX9_init_43 : decode cX9_init 43 = .ok (.newarray .int, 2) := by decide +kernel
theorem dX9_init_45 : decode cX9_init 45 = .ok (.putfield 23, 3) := by decide +kernel
theorem dX9_init_48 : decode cX9_init 48 = .ok (.aload_n 0, 1) := by decide +kernel
theorem dX9_init_49 : decode cX9_init 49 = .ok (.sipush 1846, 3) := by decide +kernel
theorem dX9_init_52 : decode cX9_init 52 = .ok (.newarray .int, 2) := by decide +kernel
theorem dX9_init_54 : decode cX9_init 54 = .ok (.putfield 26, 3) := by decide +kernel
theorem dX9_init_57 : decode cX9_init 57 = .ok (.aload_n 0, 1) := by decide +kernel
theorem dX9_init_58 : decode cX9_init 58 = .ok (.sipush 14768, 3) := by decide +kernel
theorem dX9_init_61 : decode cX9_init 61 = .ok (.newarray .int, 2) := by decide +kernel
theorem dX9_init_63 : decode cX9_init 63 = .ok (.putfield 29, 3) := by decide +kernel
theorem dX9_init_66 : decode cX9_init 66 = .ok (.aload_n 0, 1) := by decide +kernel
theorem dX9_init_67 : decode cX9_init 67 = .ok (.iconst (-1), 1) := by decide +kernel
theorem dX9_init_68 : decode cX9_init 68 = .ok (.putfield 32, 3) := by decide +kernel
theorem dX9_init_71 : decode cX9_init 71 = .ok (.aload_n 0, 1) := by decide +kernel
theorem dX9_init_72 : decode cX9_init 72 = .ok (.iconst (-1), 1) := by decide +kernel
theorem dX9_init_73 : decode cX9_init 73 = .ok (.putfield 36, 3) := by decide +kernel
theorem dX9_init_76 : decode cX9_init 76 = .ok (.aload_n 0, 1) := by decide +kernel
theorem dX9_init_77 : decode cX9_init 77 = .ok (.bipush 60, 2) := by decide +kernel
theorem dX9_init_79 : decode cX9_init 79 = .ok (.newarray .int, 2) := by decide +kernel
theorem dX9_init_81 : decode cX9_init 81 = .ok (.putfield 39, 3) := by decide +kernel
theorem dX9_init_84 : decode cX9_init 84 = .ok (.aload_n 0, 1) := by decide +kernel
theorem dX9_init_85 : decode cX9_init 85 = .ok (.sipush 600, 3) := by decide +kernel
theorem dX9_init_88 : decode cX9_init 88 = .ok (.newarray .byte, 2) := by decide +kernel
theorem dX9_init_90 : decode cX9_init 90 = .ok (.putfield 42, 3) := by decide +kernel
theorem dX9_init_93 : decode cX9_init 93 = .ok (.aload_n 0, 1) := by decide +kernel
theorem dX9_init_94 : decode cX9_init 94 = .ok (.iconst (-1), 1) := by decide +kernel
theorem dX9_init_95 : decode cX9_init 95 = .ok (.putfield 46, 3) := by decide +kernel
theorem dX9_init_98 : decode cX9_init 98 = .ok (.aload_n 0, 1) := by decide +kernel
theorem dX9_init_99 : decode cX9_init 99 = .ok (.iconst 5, 1) := by decide +kernel
theorem dX9_init_100 : decode cX9_init 100 = .ok (.newarray .int, 2) := by decide +kernel
theorem dX9_init_102 : decode cX9_init 102 = .ok (.putfield 49, 3) := by decide +kernel
theorem dX9_init_105 : decode cX9_init 105 = .ok (.aload_n 0, 1) := by decide +kernel
theorem dX9_init_106 : decode cX9_init 106 = .ok (.bipush 8, 2) := by decide +kernel
theorem dX9_init_108 : decode cX9_init 108 = .ok (.newarray .long, 2) := by decide +kernel
theorem dX9_init_110 : decode cX9_init 110 = .ok (.putfield 52, 3) := by decide +kernel
theorem dX9_init_113 : decode cX9_init 113 = .ok (.aload_n 0, 1) := by decide +kernel
theorem dX9_init_114 : decode cX9_init 114 = .ok (.sipush 1000, 3) := by decide +kernel
theorem dX9_init_117 : decode cX9_init 117 = .ok (.newarray .byte, 2) := by decide +kernel
theorem dX9_init_119 : decode cX9_init 119 = .ok (.putfield 55, 3) := by decide +kernel
theorem dX9_init_122 : decode cX9_init 122 = .ok (.aload_n 0, 1) := by decide +kernel
theorem dX9_init_123 : decode cX9_init 123 = .ok (.invokevirtual 58, 3) := by decide +kernel
theorem dX9_init_126 : decode cX9_init 126 = .ok (.aload_n 0, 1) := by decide +kernel
theorem dX9_init_127 : decode cX9_init 127 = .ok (.iconst 4, 1) := by decide +kernel
theorem dX9_init_128 : decode cX9_init 128 = .ok (.putfield 61, 3) := by decide +kernel
theorem dX9_init_131 : decode cX9_init 131 = .ok (.aload_n 0, 1) := by decide +kernel
theorem dX9_init_132 : decode cX9_init 132 = .ok (.invokevirtual 64, 3) := by decide +kernel
theorem dX9_init_135 : decode cX9_init 135 = .ok (.return_, 1) := by decide +kernel
set_option maxHeartbeats 4000000 in
set_option maxRecDepth 100000 in
theorem c_X1_init (l : Launch) (k : KT)  (a0 : Nat) (v1 : Int32) (z : Nat) (hm : (if (0 : Int32) < v1 then v1 else 0) = v1) (hn : ¬ v1 < 0) (hz : v1.toNatClampNeg = z) (hb : z ≤ 100000) : CG l k yX1_init cX1_init 2 none 1 1 z 22 [.ref a0, .int v1] [(a0, .inr (0, [.null, .int 0]))] (Qv k (fun u : Nat → Nat => wBytes k (adr a0 u) z zOS) (fun _ => True)) := by
  refine CG.ofV (by decide) (Nat.le_of_ble_eq_true rfl) (fun p e s m args below meth c A Q E hnm hW hA hret ls hl => ?_)
  have hl : lv_has ls 2 [(0, .ref a0), (1, .int v1)] := hl
  refine k_aload_n E hl 0 dX1_init_0 rfl ?_
  refine k_objInit E hl tm_146 dX1_init_1 (by first | exact Nat.le_of_ble_eq_true rfl | exact Nat.zero_le _ | simp) (by first | exact Nat.le_of_ble_eq_true rfl | exact Nat.zero_le _ | simp) ?_
  refine k_aload_n E hl 0 dX1_init_4 rfl ?_
  refine lv_iconst (v := (0 : Int32)) E.hx E.hb dX1_init_5 ic_0 ?_
  refine pf_X1_9 (ws2 := [(a0, .inr (0, [.null, .int (0 : Int32)]))]) E hW 0 rfl rfl rfl (Nat.le_of_ble_eq_true rfl) dX1_init_6 rfl (fun H locs hW => ?_)
  refine k_aload_n E hl 0 dX1_init_9 rfl ?_
  refine lv_iconst (v := (0 : Int32)) E.hx E.hb dX1_init_10 ic_0 ?_
  refine k_iload_n E hl 1 dX1_init_11 rfl ?_
  refine va_mmax E.hx E.hb (E.hml.trans hl.1.symm) E.ho (E.w tm_147 rfl) (E.w tm_148 rfl) (E.w tm_110 rfl) (E.w tm_149 rfl) (by first | exact Nat.le_of_ble_eq_true rfl | exact Nat.zero_le _ | simp) (Nat.le_of_ble_eq_true rfl) (by first | exact Nat.le_of_ble_eq_true rfl | exact Nat.zero_le _ | simp) (by first | exact Nat.le_of_ble_eq_true rfl | exact Nat.zero_le _ | simp) dX1_init_12 ?_
  refine k_topi (y := v1) hm.symm ?_
  refine k_newB (N := z) E hW hA hn hz hb (by first | exact Nat.le_of_ble_eq_true rfl | exact Nat.zero_le _ | simp) (by first | exact Nat.le_of_ble_eq_true rfl | exact Nat.zero_le _ | simp) dX1_init_15 (fun q1 H hW => ?_)
  have hW : WD k A s.heap ([(a0, .inr (0, [.null, .int (0 : Int32)]))] ++ [(q1, .inl (k.2.1.1 2, z, .inl (fun _ => 0)))]) H _ := hW
  refine pf_X1_21 (ws2 := [(a0, .inr (0, [.ref q1, .int (0 : Int32)]))] ++ [(q1, .inl (k.2.1.1 2, z, .inl (fun _ => 0)))]) E hW 0 rfl hnm rfl rfl (Nat.le_of_ble_eq_true rfl) dX1_init_17 rfl (fun H locs hW => ?_)
  exact hret (lst [q1]) _ _ _ _ _ _ hW trivial (by first | exact Nat.le_of_ble_eq_true rfl | exact Nat.zero_le _ | simp) (by first | exact Nat.le_of_ble_eq_true rfl | exact Nat.zero_le _ | simp) dX1_init_20
set_option maxHeartbeats 4000000 in
set_option maxRecDepth 100000 in
theorem c_X6_init (l : Launch) (k : KT)  (a0 : Nat) (v1 : Int32) (v2 : Int32) (z : Nat) (hm : (if (0 : Int32) < (v1 * v2) then (v1 * v2) else 0) = (v1 * v2)) (hn : ¬ (v1 * v2) < 0) (hz : (v1 * v2).toNatClampNeg = z) (hb : z ≤ 100000) : CG l k yX6_init cX6_init 3 none 1 1 z 22 [.ref a0, .int v1, .int v2] [(a0, .inr (5, [.int 0, .null]))] (Qv k (fun u : Nat → Nat => wTable k (adr a0 u) v2 z (fun _ => 0)) (fun _ => True)) := by
  refine CG.ofV (by decide) (Nat.le_of_ble_eq_true rfl) (fun p e s m args below meth c A Q E hnm hW hA hret ls hl => ?_)
  have hl : lv_has ls 3 [(0, .ref a0), (1, .int v1), (2, .int v2)] := hl
  refine k_aload_n E hl 0 dX6_init_0 rfl ?_
  refine k_objInit E hl tm_171 dX6_init_1 (by first | exact Nat.le_of_ble_eq_true rfl | exact Nat.zero_le _ | simp) (by first | exact Nat.le_of_ble_eq_true rfl | exact Nat.zero_le _ | simp) ?_
  refine k_aload_n E hl 0 dX6_init_4 rfl ?_
  refine k_iload_n E hl 2 dX6_init_5 rfl ?_
  refine pf_X6_7 (ws2 := [(a0, .inr (5, [.int v2, .null]))]) E hW 0 rfl hnm rfl rfl (Nat.le_of_ble_eq_true rfl) dX6_init_6 rfl (fun H locs hW => ?_)
  refine k_aload_n E hl 0 dX6_init_9 rfl ?_
  refine lv_iconst (v := (0 : Int32)) E.hx E.hb dX6_init_10 ic_0 ?_
  refine k_iload_n E hl 1 dX6_init_11 rfl ?_
  refine k_iload_n E hl 2 dX6_init_12 rfl ?_
  refine lv_imul E.hx E.hb dX6_init_13 ?_
  refine va_mmax E.hx E.hb (E.hml.trans hl.1.symm) E.ho (E.w tm_172 rfl) (E.w tm_148 rfl) (E.w tm_110 rfl) (E.w tm_149 rfl) (by first | exact Nat.le_of_ble_eq_true rfl | exact Nat.zero_le _ | simp) (Nat.le_of_ble_eq_true rfl) (by first | exact Nat.le_of_ble_eq_true rfl | exact Nat.zero_le _ | simp) (by first | exact Nat.le_of_ble_eq_true rfl | exact Nat.zero_le _ | simp) dX6_init_14 ?_
  refine k_topi (y := (v1 * v2)) hm.symm ?_
  refine k_newI (N := z) E hW hA hn hz hb (by first | exact Nat.le_of_ble_eq_true rfl | exact Nat.zero_le _ | simp) (by first | exact Nat.le_of_ble_eq_true rfl | exact Nat.zero_le _ | simp) dX6_init_17 (fun q1 H hW => ?_)
  have hW : WD k A s.heap ([(a0, .inr (5, [.int v2, .null]))] ++ [(q1, .inl (k.2.1.1 0, z, .inl (fun _ => 0)))]) H _ := hW
  refine pf_X6_19 (ws2 := [(a0, .inr (5, [.int v2, .ref q1]))] ++ [(q1, .inl (k.2.1.1 0, z, .inl (fun _ => 0)))]) E hW 0 rfl hnm rfl rfl (Nat.le_of_ble_eq_true rfl) dX6_init_19 rfl (fun H locs hW => ?_)
  exact hret (lst [q1]) _ _ _ _ _ _ hW trivial (by first | exact Nat.le_of_ble_eq_true rfl | exact Nat.zero_le _ | simp) (by first | exact Nat.le_of_ble_eq_true rfl | exact Nat.zero_le _ | simp) dX6_init_22
set_option maxHeartbeats 4000000 in
set_option maxRecDepth 100000 in
theorem c_X5_init (l : Launch) (k : KT)  (a0 : Nat)   : CG l k yX5_init cX5_init 1 none 2 2 58 44 [.ref a0] [(a0, .inr (4, [.int 0, .int 0, .int 0, .int 0, .int 0, .int 0, .int 0, .null]))] (Qv k (fun u : Nat → Nat => wRules k (adr a0 u) zOS) (fun _ => True)) := by
  refine CG.ofV (by decide) (Nat.le_of_ble_eq_true rfl) (fun p e s m args below meth c A Q E hnm hW hA hret ls hl => ?_)
  have hl : lv_has ls 1 [(0, .ref a0)] := hl
  refine k_aload_n E hl 0 dX5_init_0 rfl ?_
  refine k_objInit E hl tm_165 dX5_init_1 (by first | exact Nat.le_of_ble_eq_true rfl | exact Nat.zero_le _ | simp) (by first | exact Nat.le_of_ble_eq_true rfl | exact Nat.zero_le _ | simp) ?_
  refine k_aload_n E hl 0 dX5_init_4 rfl ?_
  refine lv_iconst (v := (0 : Int32)) E.hx E.hb dX5_init_5 ic_0 ?_
  refine pf_X5_9 (ws2 := [(a0, .inr (4, [.int (0 : Int32), .int 0, .int 0, .int 0, .int 0, .int 0, .int 0, .null]))]) E hW 0 rfl rfl rfl (Nat.le_of_ble_eq_true rfl) dX5_init_6 rfl (fun H locs hW => ?_)
  refine k_aload_n E hl 0 dX5_init_9 rfl ?_
  refine lv_iconst (v := (0 : Int32)) E.hx E.hb dX5_init_10 ic_0 ?_
  refine pf_X5_15 (ws2 := [(a0, .inr (4, [.int (0 : Int32), .int (0 : Int32), .int 0, .int 0, .int 0, .int 0, .int 0, .null]))]) E hW 0 rfl rfl rfl (Nat.le_of_ble_eq_true rfl) dX5_init_11 rfl (fun H locs hW => ?_)
  refine k_aload_n E hl 0 dX5_init_14 rfl ?_
  refine lv_iconst (v := (0 : Int32)) E.hx E.hb dX5_init_15 ic_0 ?_
  refine pf_X5_18 (ws2 := [(a0, .inr (4, [.int (0 : Int32), .int (0 : Int32), .int (0 : Int32), .int 0, .int 0, .int 0, .int 0, .null]))]) E hW 0 rfl rfl rfl (Nat.le_of_ble_eq_true rfl) dX5_init_16 rfl (fun H locs hW => ?_)
  refine k_aload_n E hl 0 dX5_init_19 rfl ?_
  refine lv_iconst (v := (0 : Int32)) E.hx E.hb dX5_init_20 ic_0 ?_
  refine pf_X5_21 (ws2 := [(a0, .inr (4, [.int (0 : Int32), .int (0 : Int32), .int (0 : Int32), .int (0 : Int32), .int 0, .int 0, .int 0, .null]))]) E hW 0 rfl rfl rfl (Nat.le_of_ble_eq_true rfl) dX5_init_21 rfl (fun H locs hW => ?_)
  refine k_aload_n E hl 0 dX5_init_24 rfl ?_
  refine lv_iconst (v := (0 : Int32)) E.hx E.hb dX5_init_25 ic_0 ?_
  refine pf_X5_24 (ws2 := [(a0, .inr (4, [.int (0 : Int32), .int (0 : Int32), .int (0 : Int32), .int (0 : Int32), .int (0 : Int32), .int 0, .int 0, .null]))]) E hW 0 rfl rfl rfl (Nat.le_of_ble_eq_true rfl) dX5_init_26 rfl (fun H locs hW => ?_)
  refine k_aload_n E hl 0 dX5_init_29 rfl ?_
  refine lv_iconst (v := (0 : Int32)) E.hx E.hb dX5_init_30 ic_0 ?_
  refine pf_X5_27 (ws2 := [(a0, .inr (4, [.int (0 : Int32), .int (0 : Int32), .int (0 : Int32), .int (0 : Int32), .int (0 : Int32), .int (0 : Int32), .int 0, .null]))]) E hW 0 rfl rfl rfl (Nat.le_of_ble_eq_true rfl) dX5_init_31 rfl (fun H locs hW => ?_)
  refine k_aload_n E hl 0 dX5_init_34 rfl ?_
  refine lv_iconst (v := (0 : Int32)) E.hx E.hb dX5_init_35 ic_0 ?_
  refine pf_X5_30 (ws2 := [(a0, .inr (4, [.int (0 : Int32), .int (0 : Int32), .int (0 : Int32), .int (0 : Int32), .int (0 : Int32), .int (0 : Int32), .int (0 : Int32), .null]))]) E hW 0 rfl rfl rfl (Nat.le_of_ble_eq_true rfl) dX5_init_36 rfl (fun H locs hW => ?_)
  refine k_aload_n E hl 0 dX5_init_39 rfl ?_
  refine nw_X5_33 E hW hA (by decide) (by decide) dX5_init_40 (fun q1 H hW => ?_)
  have hW : WD k A s.heap ([(a0, .inr (4, [.int (0 : Int32), .int (0 : Int32), .int (0 : Int32), .int (0 : Int32), .int (0 : Int32), .int (0 : Int32), .int (0 : Int32), .null]))] ++ [(q1, .inr (5, [.int 0, .null]))]) H _ := hW
  refine lv_dup E.hx E.hb dX5_init_43 rfl ?_
  refine lv_bipush (v := (8 : Int32)) E.hx E.hb dX5_init_44 bp_8 ?_
  refine lv_bipush (v := (7 : Int32)) E.hx E.hb dX5_init_46 bp_7 ?_
  refine k_callNew (As := [.int (8 : Int32), .int (7 : Int32)]) (rest := [.ref q1, .ref a0]) (c_X6_init l k q1 (8 : Int32) (7 : Int32) 56 (by decide) (by decide) (by decide) (by decide)) E il_X5_35 dX5_init_48 rfl hW hA hl rfl ⟨by decide, by decide⟩ ⟨by decide, by decide⟩ (Nat.le_of_ble_eq_true rfl) (fun u2 H locs _ hW => ?_)
  have hW : WD k A s.heap ([(a0, .inr (4, [.int (0 : Int32), .int (0 : Int32), .int (0 : Int32), .int (0 : Int32), .int (0 : Int32), .int (0 : Int32), .int (0 : Int32), .null]))] ++ wTable k (adr q1 u2) (7 : Int32) 56 (fun _ => 0)) H locs := hW
  refine pf_X5_38 (ws2 := [(a0, .inr (4, [.int (0 : Int32), .int (0 : Int32), .int (0 : Int32), .int (0 : Int32), .int (0 : Int32), .int (0 : Int32), .int (0 : Int32), .ref q1]))] ++ wTable k (adr q1 u2) (7 : Int32) 56 (fun _ => 0)) E hW 0 rfl hnm rfl rfl (Nat.le_of_ble_eq_true rfl) dX5_init_51 rfl (fun H locs hW => ?_)
  exact hret (lst [q1, u2 0]) _ _ _ _ _ _ hW trivial (by first | exact Nat.le_of_ble_eq_true rfl | exact Nat.zero_le _ | simp) (by first | exact Nat.le_of_ble_eq_true rfl | exact Nat.zero_le _ | simp) dX5_init_54
set_option maxHeartbeats 4000000 in
set_option maxRecDepth 100000 in
theorem c_X2_init (l : Launch) (k : KT)  (a0 : Nat)   : CG l k yX2_init cX2_init 1 none 2 11 1803 44 [.ref a0] [(a0, .inr (1, [.int 0, .int 0, .int 0, .int 0, .int 0, .int 0, .int 0, .int 0, .int 0, .null, .null, .null, .null, .null, .null, .null]))] (Qv k (fun u : Nat → Nat => wCourt k (adr a0 u) zOS) (fun _ => True)) := by
  refine CG.ofV (by decide) (Nat.le_of_ble_eq_true rfl) (fun p e s m args below meth c A Q E hnm hW hA hret ls hl => ?_)
  have hl : lv_has ls 1 [(0, .ref a0)] := hl
  refine k_aload_n E hl 0 dX2_init_0 rfl ?_
  refine k_objInit E hl tm_223 dX2_init_1 (by first | exact Nat.le_of_ble_eq_true rfl | exact Nat.zero_le _ | simp) (by first | exact Nat.le_of_ble_eq_true rfl | exact Nat.zero_le _ | simp) ?_
  refine k_aload_n E hl 0 dX2_init_4 rfl ?_
  refine lv_iconst (v := (0 : Int32)) E.hx E.hb dX2_init_5 ic_0 ?_
  refine pf_X2_9 (ws2 := [(a0, .inr (1, [.int (0 : Int32), .int 0, .int 0, .int 0, .int 0, .int 0, .int 0, .int 0, .int 0, .null, .null, .null, .null, .null, .null, .null]))]) E hW 0 rfl rfl rfl (Nat.le_of_ble_eq_true rfl) dX2_init_6 rfl (fun H locs hW => ?_)
  refine k_aload_n E hl 0 dX2_init_9 rfl ?_
  refine lv_iconst (v := (0 : Int32)) E.hx E.hb dX2_init_10 ic_0 ?_
  refine pf_X2_15 (ws2 := [(a0, .inr (1, [.int (0 : Int32), .int (0 : Int32), .int 0, .int 0, .int 0, .int 0, .int 0, .int 0, .int 0, .null, .null, .null, .null, .null, .null, .null]))]) E hW 0 rfl rfl rfl (Nat.le_of_ble_eq_true rfl) dX2_init_11 rfl (fun H locs hW => ?_)
  refine k_aload_n E hl 0 dX2_init_14 rfl ?_
  refine lv_iconst (v := (0 : Int32)) E.hx E.hb dX2_init_15 ic_0 ?_
  refine pf_X2_18 (ws2 := [(a0, .inr (1, [.int (0 : Int32), .int (0 : Int32), .int (0 : Int32), .int 0, .int 0, .int 0, .int 0, .int 0, .int 0, .null, .null, .null, .null, .null, .null, .null]))]) E hW 0 rfl rfl rfl (Nat.le_of_ble_eq_true rfl) dX2_init_16 rfl (fun H locs hW => ?_)
  refine k_aload_n E hl 0 dX2_init_19 rfl ?_
  refine lv_iconst (v := (0 : Int32)) E.hx E.hb dX2_init_20 ic_0 ?_
  refine pf_X2_21 (ws2 := [(a0, .inr (1, [.int (0 : Int32), .int (0 : Int32), .int (0 : Int32), .int (0 : Int32), .int 0, .int 0, .int 0, .int 0, .int 0, .null, .null, .null, .null, .null, .null, .null]))]) E hW 0 rfl rfl rfl (Nat.le_of_ble_eq_true rfl) dX2_init_21 rfl (fun H locs hW => ?_)
  refine k_aload_n E hl 0 dX2_init_24 rfl ?_
  refine lv_iconst (v := (0 : Int32)) E.hx E.hb dX2_init_25 ic_0 ?_
  refine pf_X2_24 (ws2 := [(a0, .inr (1, [.int (0 : Int32), .int (0 : Int32), .int (0 : Int32), .int (0 : Int32), .int (0 : Int32), .int 0, .int 0, .int 0, .int 0, .null, .null, .null, .null, .null, .null, .null]))]) E hW 0 rfl rfl rfl (Nat.le_of_ble_eq_true rfl) dX2_init_26 rfl (fun H locs hW => ?_)
  refine k_aload_n E hl 0 dX2_init_29 rfl ?_
  refine lv_iconst (v := (0 : Int32)) E.hx E.hb dX2_init_30 ic_0 ?_
  refine pf_X2_27 (ws2 := [(a0, .inr (1, [.int (0 : Int32), .int (0 : Int32), .int (0 : Int32), .int (0 : Int32), .int (0 : Int32), .int (0 : Int32), .int 0, .int 0, .int 0, .null, .null, .null, .null, .null, .null, .null]))]) E hW 0 rfl rfl rfl (Nat.le_of_ble_eq_true rfl) dX2_init_31 rfl (fun H locs hW => ?_)
  refine k_aload_n E hl 0 dX2_init_34 rfl ?_
  refine lv_iconst (v := (0 : Int32)) E.hx E.hb dX2_init_35 ic_0 ?_
  refine pf_X2_30 (ws2 := [(a0, .inr (1, [.int (0 : Int32), .int (0 : Int32), .int (0 : Int32), .int (0 : Int32), .int (0 : Int32), .int (0 : Int32), .int (0 : Int32), .int 0, .int 0, .null, .null, .null, .null, .null, .null, .null]))]) E hW 0 rfl rfl rfl (Nat.le_of_ble_eq_true rfl) dX2_init_36 rfl (fun H locs hW => ?_)
  refine k_aload_n E hl 0 dX2_init_39 rfl ?_
  refine lv_iconst (v := (0 : Int32)) E.hx E.hb dX2_init_40 ic_0 ?_
  refine pf_X2_33 (ws2 := [(a0, .inr (1, [.int (0 : Int32), .int (0 : Int32), .int (0 : Int32), .int (0 : Int32), .int (0 : Int32), .int (0 : Int32), .int (0 : Int32), .int (0 : Int32), .int 0, .null, .null, .null, .null, .null, .null, .null]))]) E hW 0 rfl rfl rfl (Nat.le_of_ble_eq_true rfl) dX2_init_41 rfl (fun H locs hW => ?_)
  refine k_aload_n E hl 0 dX2_init_44 rfl ?_
  refine lv_iconst (v := (0 : Int32)) E.hx E.hb dX2_init_45 ic_0 ?_
  refine pf_X2_36 (ws2 := [(a0, .inr (1, [.int (0 : Int32), .int (0 : Int32), .int (0 : Int32), .int (0 : Int32), .int (0 : Int32), .int (0 : Int32), .int (0 : Int32), .int (0 : Int32), .int (0 : Int32), .null, .null, .null, .null, .null, .null, .null]))]) E hW 0 rfl rfl rfl (Nat.le_of_ble_eq_true rfl) dX2_init_46 rfl (fun H locs hW => ?_)
  refine k_aload_n E hl 0 dX2_init_49 rfl ?_
  refine lv_sipush (v := (251 : Int32)) E.hx E.hb dX2_init_50 sp_251 ?_
  refine k_newJ (N := 251) E hW hA (by decide) (by decide) (by decide) (by decide) (by decide) dX2_init_53 (fun q1 H hW => ?_)
  have hW : WD k A s.heap ([(a0, .inr (1, [.int (0 : Int32), .int (0 : Int32), .int (0 : Int32), .int (0 : Int32), .int (0 : Int32), .int (0 : Int32), .int (0 : Int32), .int (0 : Int32), .int (0 : Int32), .null, .null, .null, .null, .null, .null, .null]))] ++ [(q1, .inl (k.2.1.1 1, 251, .inr (.inl (fun _ => 0))))]) H _ := hW
  refine pf_X2_39 (ws2 := [(a0, .inr (1, [.int (0 : Int32), .int (0 : Int32), .int (0 : Int32), .int (0 : Int32), .int (0 : Int32), .int (0 : Int32), .int (0 : Int32), .int (0 : Int32), .int (0 : Int32), .ref q1, .null, .null, .null, .null, .null, .null]))] ++ [(q1, .inl (k.2.1.1 1, 251, .inr (.inl (fun _ => 0))))]) E hW 0 rfl hnm rfl rfl (Nat.le_of_ble_eq_true rfl) dX2_init_55 rfl (fun H locs hW => ?_)
  refine k_aload_n E hl 0 dX2_init_58 rfl ?_
  refine lv_bipush (v := (64 : Int32)) E.hx E.hb dX2_init_59 bp_64 ?_
  refine k_newI (N := 64) E hW hA (by decide) (by decide) (by decide) (by decide) (by decide) dX2_init_61 (fun q2 H hW => ?_)
  have hW : WD k A s.heap ([(a0, .inr (1, [.int (0 : Int32), .int (0 : Int32), .int (0 : Int32), .int (0 : Int32), .int (0 : Int32), .int (0 : Int32), .int (0 : Int32), .int (0 : Int32), .int (0 : Int32), .ref q1, .null, .null, .null, .null, .null, .null]))] ++ [(q1, .inl (k.2.1.1 1, 251, .inr (.inl (fun _ => 0))))] ++ [(q2, .inl (k.2.1.1 0, 64, .inl (fun _ => 0)))]) H _ := hW
  refine pf_X2_43 (ws2 := [(a0, .inr (1, [.int (0 : Int32), .int (0 : Int32), .int (0 : Int32), .int (0 : Int32), .int (0 : Int32), .int (0 : Int32), .int (0 : Int32), .int (0 : Int32), .int (0 : Int32), .ref q1, .ref q2, .null, .null, .null, .null, .null]))] ++ [(q1, .inl (k.2.1.1 1, 251, .inr (.inl (fun _ => 0))))] ++ [(q2, .inl (k.2.1.1 0, 64, .inl (fun _ => 0)))]) E hW 0 rfl hnm rfl rfl (Nat.le_of_ble_eq_true rfl) dX2_init_63 rfl (fun H locs hW => ?_)
  refine k_aload_n E hl 0 dX2_init_66 rfl ?_
  refine nw_X2_47 E hW hA (by decide) (by decide) dX2_init_67 (fun q3 H hW => ?_)
  have hW : WD k A s.heap ([(a0, .inr (1, [.int (0 : Int32), .int (0 : Int32), .int (0 : Int32), .int (0 : Int32), .int (0 : Int32), .int (0 : Int32), .int (0 : Int32), .int (0 : Int32), .int (0 : Int32), .ref q1, .ref q2, .null, .null, .null, .null, .null]))] ++ [(q1, .inl (k.2.1.1 1, 251, .inr (.inl (fun _ => 0))))] ++ [(q2, .inl (k.2.1.1 0, 64, .inl (fun _ => 0)))] ++ [(q3, .inr (5, [.int 0, .null]))]) H _ := hW
  refine lv_dup E.hx E.hb dX2_init_70 rfl ?_
  refine lv_bipush (v := (8 : Int32)) E.hx E.hb dX2_init_71 bp_8 ?_
  refine lv_iconst (v := (5 : Int32)) E.hx E.hb dX2_init_73 ic_5 ?_
  refine k_callNew (As := [.int (8 : Int32), .int (5 : Int32)]) (rest := [.ref q3, .ref a0]) (c_X6_init l k q3 (8 : Int32) (5 : Int32) 40 (by decide) (by decide) (by decide) (by decide)) E il_X2_49 dX2_init_74 rfl hW hA hl rfl ⟨by decide, by decide⟩ ⟨by decide, by decide⟩ (Nat.le_of_ble_eq_true rfl) (fun u4 H locs _ hW => ?_)
  have hW : WD k A s.heap ([(a0, .inr (1, [.int (0 : Int32), .int (0 : Int32), .int (0 : Int32), .int (0 : Int32), .int (0 : Int32), .int (0 : Int32), .int (0 : Int32), .int (0 : Int32), .int (0 : Int32), .ref q1, .ref q2, .null, .null, .null, .null, .null]))] ++ [(q1, .inl (k.2.1.1 1, 251, .inr (.inl (fun _ => 0))))] ++ [(q2, .inl (k.2.1.1 0, 64, .inl (fun _ => 0)))] ++ wTable k (adr q3 u4) (5 : Int32) 40 (fun _ => 0)) H locs := hW
  refine pf_X2_52 (ws2 := [(a0, .inr (1, [.int (0 : Int32), .int (0 : Int32), .int (0 : Int32), .int (0 : Int32), .int (0 : Int32), .int (0 : Int32), .int (0 : Int32), .int (0 : Int32), .int (0 : Int32), .ref q1, .ref q2, .ref q3, .null, .null, .null, .null]))] ++ [(q1, .inl (k.2.1.1 1, 251, .inr (.inl (fun _ => 0))))] ++ [(q2, .inl (k.2.1.1 0, 64, .inl (fun _ => 0)))] ++ wTable k (adr q3 u4) (5 : Int32) 40 (fun _ => 0)) E hW 0 rfl hnm rfl rfl (Nat.le_of_ble_eq_true rfl) dX2_init_77 rfl (fun H locs hW => ?_)
  refine k_aload_n E hl 0 dX2_init_80 rfl ?_
  refine nw_X2_47 E hW hA (by decide) (by decide) dX2_init_81 (fun q5 H hW => ?_)
  have hW : WD k A s.heap ([(a0, .inr (1, [.int (0 : Int32), .int (0 : Int32), .int (0 : Int32), .int (0 : Int32), .int (0 : Int32), .int (0 : Int32), .int (0 : Int32), .int (0 : Int32), .int (0 : Int32), .ref q1, .ref q2, .ref q3, .null, .null, .null, .null]))] ++ [(q1, .inl (k.2.1.1 1, 251, .inr (.inl (fun _ => 0))))] ++ [(q2, .inl (k.2.1.1 0, 64, .inl (fun _ => 0)))] ++ wTable k (adr q3 u4) (5 : Int32) 40 (fun _ => 0) ++ [(q5, .inr (5, [.int 0, .null]))]) H _ := hW
  refine lv_dup E.hx E.hb dX2_init_84 rfl ?_
  refine lv_bipush (v := (80 : Int32)) E.hx E.hb dX2_init_85 bp_80 ?_
  refine lv_bipush (v := (8 : Int32)) E.hx E.hb dX2_init_87 bp_8 ?_
  refine k_callNew (As := [.int (80 : Int32), .int (8 : Int32)]) (rest := [.ref q5, .ref a0]) (c_X6_init l k q5 (80 : Int32) (8 : Int32) 640 (by decide) (by decide) (by decide) (by decide)) E il_X2_49 dX2_init_89 rfl hW hA hl rfl ⟨by decide, by decide⟩ ⟨by decide, by decide⟩ (Nat.le_of_ble_eq_true rfl) (fun u6 H locs _ hW => ?_)
  have hW : WD k A s.heap ([(a0, .inr (1, [.int (0 : Int32), .int (0 : Int32), .int (0 : Int32), .int (0 : Int32), .int (0 : Int32), .int (0 : Int32), .int (0 : Int32), .int (0 : Int32), .int (0 : Int32), .ref q1, .ref q2, .ref q3, .null, .null, .null, .null]))] ++ [(q1, .inl (k.2.1.1 1, 251, .inr (.inl (fun _ => 0))))] ++ [(q2, .inl (k.2.1.1 0, 64, .inl (fun _ => 0)))] ++ wTable k (adr q3 u4) (5 : Int32) 40 (fun _ => 0) ++ wTable k (adr q5 u6) (8 : Int32) 640 (fun _ => 0)) H locs := hW
  refine pf_X2_56 (ws2 := [(a0, .inr (1, [.int (0 : Int32), .int (0 : Int32), .int (0 : Int32), .int (0 : Int32), .int (0 : Int32), .int (0 : Int32), .int (0 : Int32), .int (0 : Int32), .int (0 : Int32), .ref q1, .ref q2, .ref q3, .ref q5, .null, .null, .null]))] ++ [(q1, .inl (k.2.1.1 1, 251, .inr (.inl (fun _ => 0))))] ++ [(q2, .inl (k.2.1.1 0, 64, .inl (fun _ => 0)))] ++ wTable k (adr q3 u4) (5 : Int32) 40 (fun _ => 0) ++ wTable k (adr q5 u6) (8 : Int32) 640 (fun _ => 0)) E hW 0 rfl hnm rfl rfl (Nat.le_of_ble_eq_true rfl) dX2_init_92 rfl (fun H locs hW => ?_)
  refine k_aload_n E hl 0 dX2_init_95 rfl ?_
  refine nw_X2_47 E hW hA (by decide) (by decide) dX2_init_96 (fun q7 H hW => ?_)
  have hW : WD k A s.heap ([(a0, .inr (1, [.int (0 : Int32), .int (0 : Int32), .int (0 : Int32), .int (0 : Int32), .int (0 : Int32), .int (0 : Int32), .int (0 : Int32), .int (0 : Int32), .int (0 : Int32), .ref q1, .ref q2, .ref q3, .ref q5, .null, .null, .null]))] ++ [(q1, .inl (k.2.1.1 1, 251, .inr (.inl (fun _ => 0))))] ++ [(q2, .inl (k.2.1.1 0, 64, .inl (fun _ => 0)))] ++ wTable k (adr q3 u4) (5 : Int32) 40 (fun _ => 0) ++ wTable k (adr q5 u6) (8 : Int32) 640 (fun _ => 0) ++ [(q7, .inr (5, [.int 0, .null]))]) H _ := hW
  refine lv_dup E.hx E.hb dX2_init_99 rfl ?_
  refine lv_bipush (v := (60 : Int32)) E.hx E.hb dX2_init_100 bp_60 ?_
  refine lv_bipush (v := (7 : Int32)) E.hx E.hb dX2_init_102 bp_7 ?_
  refine k_callNew (As := [.int (60 : Int32), .int (7 : Int32)]) (rest := [.ref q7, .ref a0]) (c_X6_init l k q7 (60 : Int32) (7 : Int32) 420 (by decide) (by decide) (by decide) (by decide)) E il_X2_49 dX2_init_104 rfl hW hA hl rfl ⟨by decide, by decide⟩ ⟨by decide, by decide⟩ (Nat.le_of_ble_eq_true rfl) (fun u8 H locs _ hW => ?_)
  have hW : WD k A s.heap ([(a0, .inr (1, [.int (0 : Int32), .int (0 : Int32), .int (0 : Int32), .int (0 : Int32), .int (0 : Int32), .int (0 : Int32), .int (0 : Int32), .int (0 : Int32), .int (0 : Int32), .ref q1, .ref q2, .ref q3, .ref q5, .null, .null, .null]))] ++ [(q1, .inl (k.2.1.1 1, 251, .inr (.inl (fun _ => 0))))] ++ [(q2, .inl (k.2.1.1 0, 64, .inl (fun _ => 0)))] ++ wTable k (adr q3 u4) (5 : Int32) 40 (fun _ => 0) ++ wTable k (adr q5 u6) (8 : Int32) 640 (fun _ => 0) ++ wTable k (adr q7 u8) (7 : Int32) 420 (fun _ => 0)) H locs := hW
  refine pf_X2_59 (ws2 := [(a0, .inr (1, [.int (0 : Int32), .int (0 : Int32), .int (0 : Int32), .int (0 : Int32), .int (0 : Int32), .int (0 : Int32), .int (0 : Int32), .int (0 : Int32), .int (0 : Int32), .ref q1, .ref q2, .ref q3, .ref q5, .ref q7, .null, .null]))] ++ [(q1, .inl (k.2.1.1 1, 251, .inr (.inl (fun _ => 0))))] ++ [(q2, .inl (k.2.1.1 0, 64, .inl (fun _ => 0)))] ++ wTable k (adr q3 u4) (5 : Int32) 40 (fun _ => 0) ++ wTable k (adr q5 u6) (8 : Int32) 640 (fun _ => 0) ++ wTable k (adr q7 u8) (7 : Int32) 420 (fun _ => 0)) E hW 0 rfl hnm rfl rfl (Nat.le_of_ble_eq_true rfl) dX2_init_107 rfl (fun H locs hW => ?_)
  refine k_aload_n E hl 0 dX2_init_110 rfl ?_
  refine nw_X2_47 E hW hA (by decide) (by decide) dX2_init_111 (fun q9 H hW => ?_)
  have hW : WD k A s.heap ([(a0, .inr (1, [.int (0 : Int32), .int (0 : Int32), .int (0 : Int32), .int (0 : Int32), .int (0 : Int32), .int (0 : Int32), .int (0 : Int32), .int (0 : Int32), .int (0 : Int32), .ref q1, .ref q2, .ref q3, .ref q5, .ref q7, .null, .null]))] ++ [(q1, .inl (k.2.1.1 1, 251, .inr (.inl (fun _ => 0))))] ++ [(q2, .inl (k.2.1.1 0, 64, .inl (fun _ => 0)))] ++ wTable k (adr q3 u4) (5 : Int32) 40 (fun _ => 0) ++ wTable k (adr q5 u6) (8 : Int32) 640 (fun _ => 0) ++ wTable k (adr q7 u8) (7 : Int32) 420 (fun _ => 0) ++ [(q9, .inr (5, [.int 0, .null]))]) H _ := hW
  refine lv_dup E.hx E.hb dX2_init_114 rfl ?_
  refine lv_bipush (v := (40 : Int32)) E.hx E.hb dX2_init_115 bp_40 ?_
  refine lv_bipush (v := (8 : Int32)) E.hx E.hb dX2_init_117 bp_8 ?_
  refine k_callNew (As := [.int (40 : Int32), .int (8 : Int32)]) (rest := [.ref q9, .ref a0]) (c_X6_init l k q9 (40 : Int32) (8 : Int32) 320 (by decide) (by decide) (by decide) (by decide)) E il_X2_49 dX2_init_119 rfl hW hA hl rfl ⟨by decide, by decide⟩ ⟨by decide, by decide⟩ (Nat.le_of_ble_eq_true rfl) (fun u10 H locs _ hW => ?_)
  have hW : WD k A s.heap ([(a0, .inr (1, [.int (0 : Int32), .int (0 : Int32), .int (0 : Int32), .int (0 : Int32), .int (0 : Int32), .int (0 : Int32), .int (0 : Int32), .int (0 : Int32), .int (0 : Int32), .ref q1, .ref q2, .ref q3, .ref q5, .ref q7, .null, .null]))] ++ [(q1, .inl (k.2.1.1 1, 251, .inr (.inl (fun _ => 0))))] ++ [(q2, .inl (k.2.1.1 0, 64, .inl (fun _ => 0)))] ++ wTable k (adr q3 u4) (5 : Int32) 40 (fun _ => 0) ++ wTable k (adr q5 u6) (8 : Int32) 640 (fun _ => 0) ++ wTable k (adr q7 u8) (7 : Int32) 420 (fun _ => 0) ++ wTable k (adr q9 u10) (8 : Int32) 320 (fun _ => 0)) H locs := hW
  refine pf_X2_62 (ws2 := [(a0, .inr (1, [.int (0 : Int32), .int (0 : Int32), .int (0 : Int32), .int (0 : Int32), .int (0 : Int32), .int (0 : Int32), .int (0 : Int32), .int (0 : Int32), .int (0 : Int32), .ref q1, .ref q2, .ref q3, .ref q5, .ref q7, .ref q9, .null]))] ++ [(q1, .inl (k.2.1.1 1, 251, .inr (.inl (fun _ => 0))))] ++ [(q2, .inl (k.2.1.1 0, 64, .inl (fun _ => 0)))] ++ wTable k (adr q3 u4) (5 : Int32) 40 (fun _ => 0) ++ wTable k (adr q5 u6) (8 : Int32) 640 (fun _ => 0) ++ wTable k (adr q7 u8) (7 : Int32) 420 (fun _ => 0) ++ wTable k (adr q9 u10) (8 : Int32) 320 (fun _ => 0)) E hW 0 rfl hnm rfl rfl (Nat.le_of_ble_eq_true rfl) dX2_init_122 rfl (fun H locs hW => ?_)
  refine k_aload_n E hl 0 dX2_init_125 rfl ?_
  refine lv_bipush (v := (60 : Int32)) E.hx E.hb dX2_init_126 bp_60 ?_
  refine k_newI (N := 60) E hW hA (by decide) (by decide) (by decide) (by decide) (by decide) dX2_init_128 (fun q11 H hW => ?_)
  have hW : WD k A s.heap ([(a0, .inr (1, [.int (0 : Int32), .int (0 : Int32), .int (0 : Int32), .int (0 : Int32), .int (0 : Int32), .int (0 : Int32), .int (0 : Int32), .int (0 : Int32), .int (0 : Int32), .ref q1, .ref q2, .ref q3, .ref q5, .ref q7, .ref q9, .null]))] ++ [(q1, .inl (k.2.1.1 1, 251, .inr (.inl (fun _ => 0))))] ++ [(q2, .inl (k.2.1.1 0, 64, .inl (fun _ => 0)))] ++ wTable k (adr q3 u4) (5 : Int32) 40 (fun _ => 0) ++ wTable k (adr q5 u6) (8 : Int32) 640 (fun _ => 0) ++ wTable k (adr q7 u8) (7 : Int32) 420 (fun _ => 0) ++ wTable k (adr q9 u10) (8 : Int32) 320 (fun _ => 0) ++ [(q11, .inl (k.2.1.1 0, 60, .inl (fun _ => 0)))]) H _ := hW
  refine pf_X2_65 (ws2 := [(a0, .inr (1, [.int (0 : Int32), .int (0 : Int32), .int (0 : Int32), .int (0 : Int32), .int (0 : Int32), .int (0 : Int32), .int (0 : Int32), .int (0 : Int32), .int (0 : Int32), .ref q1, .ref q2, .ref q3, .ref q5, .ref q7, .ref q9, .ref q11]))] ++ [(q1, .inl (k.2.1.1 1, 251, .inr (.inl (fun _ => 0))))] ++ [(q2, .inl (k.2.1.1 0, 64, .inl (fun _ => 0)))] ++ wTable k (adr q3 u4) (5 : Int32) 40 (fun _ => 0) ++ wTable k (adr q5 u6) (8 : Int32) 640 (fun _ => 0) ++ wTable k (adr q7 u8) (7 : Int32) 420 (fun _ => 0) ++ wTable k (adr q9 u10) (8 : Int32) 320 (fun _ => 0) ++ [(q11, .inl (k.2.1.1 0, 60, .inl (fun _ => 0)))]) E hW 0 rfl hnm rfl rfl (Nat.le_of_ble_eq_true rfl) dX2_init_130 rfl (fun H locs hW => ?_)
  exact hret (lst [q1, q2, q3, u4 0, q5, u6 0, q7, u8 0, q9, u10 0, q11]) _ _ _ _ _ _ hW trivial (by first | exact Nat.le_of_ble_eq_true rfl | exact Nat.zero_le _ | simp) (by first | exact Nat.le_of_ble_eq_true rfl | exact Nat.zero_le _ | simp) dX2_init_133
set_option maxHeartbeats 4000000 in
set_option maxRecDepth 100000 in
theorem c_X3_init (l : Launch) (k : KT) (hO : AOH k) (a0 : Nat)   : CG l k yX3_init cX3_init 1 none 1 1 8 12 [.ref a0] [(a0, .inr (2, [.null, .int 0, .int 0]))] (Qv k (fun u : Nat → Nat => wPast k (adr a0 u) (fun _ _ => 0) zPS) (fun _ => True)) := by
  refine CG.ofV (by decide) (Nat.le_of_ble_eq_true rfl) (fun p e s m args below meth c A Q E hnm hW hA hret ls hl => ?_)
  have hl : lv_has ls 1 [(0, .ref a0)] := hl
  refine k_aload_n E hl 0 dX3_init_0 rfl ?_
  refine k_objInit E hl tm_346 dX3_init_1 (by first | exact Nat.le_of_ble_eq_true rfl | exact Nat.zero_le _ | simp) (by first | exact Nat.le_of_ble_eq_true rfl | exact Nat.zero_le _ | simp) ?_
  refine k_aload_n E hl 0 dX3_init_4 rfl ?_
  refine lv_bipush (v := (8 : Int32)) E.hx E.hb dX3_init_5 bp_8 ?_
  refine k_newQ (N := 8) hO E hW hA (by decide) (by decide) (by decide) (by decide) (by decide) dX3_init_7 (fun q1 H hW => ?_)
  have hW : WD k A s.heap ([(a0, .inr (2, [.null, .int 0, .int 0]))] ++ [(q1, .inl (k.2.1.1 3, 8, .inr (.inr (.inr (.inr (fun _ => none))))))]) H _ := hW
  refine pf_X3_11 (ws2 := [(a0, .inr (2, [.ref q1, .int 0, .int 0]))] ++ [(q1, .inl (k.2.1.1 3, 8, .inr (.inr (.inr (.inr (fun _ => none))))))]) E hW 0 rfl hnm rfl rfl (Nat.le_of_ble_eq_true rfl) dX3_init_10 rfl (fun H locs hW => ?_)
  refine k_aload_n E hl 0 dX3_init_13 rfl ?_
  refine lv_iconst (v := (0 : Int32)) E.hx E.hb dX3_init_14 ic_0 ?_
  refine pf_X3_17 (ws2 := [(a0, .inr (2, [.ref q1, .int (0 : Int32), .int 0]))] ++ [(q1, .inl (k.2.1.1 3, 8, .inr (.inr (.inr (.inr (fun _ => none))))))]) E hW 0 rfl rfl rfl (Nat.le_of_ble_eq_true rfl) dX3_init_15 rfl (fun H locs hW => ?_)
  refine k_aload_n E hl 0 dX3_init_18 rfl ?_
  refine lv_iconst (v := (0 : Int32)) E.hx E.hb dX3_init_19 ic_0 ?_
  refine pf_X3_21 (ws2 := [(a0, .inr (2, [.ref q1, .int (0 : Int32), .int (0 : Int32)]))] ++ [(q1, .inl (k.2.1.1 3, 8, .inr (.inr (.inr (.inr (fun _ => none))))))]) E hW 0 rfl rfl rfl (Nat.le_of_ble_eq_true rfl) dX3_init_20 rfl (fun H locs hW => ?_)
  exact hret (lst [q1]) _ _ _ _ _ _ hW trivial (by first | exact Nat.le_of_ble_eq_true rfl | exact Nat.zero_le _ | simp) (by first | exact Nat.le_of_ble_eq_true rfl | exact Nat.zero_le _ | simp) dX3_init_23
set_option maxHeartbeats 4000000 in
set_option maxRecDepth 100000 in
theorem c_X4_init (l : Launch) (k : KT) (hE : EH k) (a0 : Nat) (xin : Nat) (xco : Nat)  : CG l k yX4_init cX4_init 3 none 3 3 66 64 [.ref a0, .ref xin, .ref xco] [(a0, .inr (3, [.null, .null, .null, .int 0, .int 0, .int 0, .int 0, .int 0, .null, .int 0, .int 0, .int 0]))] (Qv k (fun u : Nat → Nat => wReader k (fun _ => a0) xin xco (u 0) zRd ++ wRules k u zOS) (fun _ => True)) := by
  refine CG.ofV (by decide) (Nat.le_of_ble_eq_true rfl) (fun p e s m args below meth c A Q E hnm hW hA hret ls hl => ?_)
  have hl : lv_has ls 3 [(0, .ref a0), (1, .ref xin), (2, .ref xco)] := hl
  refine k_aload_n E hl 0 dX4_init_0 rfl ?_
  refine k_objInit E hl tm_296 dX4_init_1 (by first | exact Nat.le_of_ble_eq_true rfl | exact Nat.zero_le _ | simp) (by first | exact Nat.le_of_ble_eq_true rfl | exact Nat.zero_le _ | simp) ?_
  refine k_aload_n E hl 0 dX4_init_4 rfl ?_
  refine nw_X4_9 E hW hA (by decide) (by decide) dX4_init_5 (fun q1 H hW => ?_)
  have hW : WD k A s.heap ([(a0, .inr (3, [.null, .null, .null, .int 0, .int 0, .int 0, .int 0, .int 0, .null, .int 0, .int 0, .int 0]))] ++ [(q1, .inr (4, [.int 0, .int 0, .int 0, .int 0, .int 0, .int 0, .int 0, .null]))]) H _ := hW
  refine lv_dup E.hx E.hb dX4_init_8 rfl ?_
  refine k_callNewN (As := []) (rest := [.ref q1, .ref a0]) (c_X5_init l k q1) E il_X4_11 dX4_init_9 rfl hW hA hl rfl ⟨by decide, by decide⟩ ⟨by decide, by decide⟩ (Nat.le_of_ble_eq_true rfl) (fun u2 H locs _ hW => ?_)
  have hW : WD k A s.heap ([(a0, .inr (3, [.null, .null, .null, .int 0, .int 0, .int 0, .int 0, .int 0, .null, .int 0, .int 0, .int 0]))] ++ wRules k (adr q1 u2) zOS) H locs := hW
  refine pf_X4_12 (ws2 := [(a0, .inr (3, [.null, .null, .ref q1, .int 0, .int 0, .int 0, .int 0, .int 0, .null, .int 0, .int 0, .int 0]))] ++ wRules k (adr q1 u2) zOS) E hW 0 rfl hnm rfl rfl (Nat.le_of_ble_eq_true rfl) dX4_init_12 rfl (fun H locs hW => ?_)
  refine k_aload_n E hl 0 dX4_init_15 rfl ?_
  refine lv_iconst (v := (0 : Int32)) E.hx E.hb dX4_init_16 ic_0 ?_
  refine pf_X4_18 (ws2 := [(a0, .inr (3, [.null, .null, .ref q1, .int (0 : Int32), .int 0, .int 0, .int 0, .int 0, .null, .int 0, .int 0, .int 0]))] ++ wRules k (adr q1 u2) zOS) E hW 0 rfl rfl rfl (Nat.le_of_ble_eq_true rfl) dX4_init_17 rfl (fun H locs hW => ?_)
  refine k_aload_n E hl 0 dX4_init_20 rfl ?_
  refine lv_iconst (v := (-1 : Int32)) E.hx E.hb dX4_init_21 ic_m1 ?_
  refine pf_X4_22 (ws2 := [(a0, .inr (3, [.null, .null, .ref q1, .int (0 : Int32), .int (-1 : Int32), .int 0, .int 0, .int 0, .null, .int 0, .int 0, .int 0]))] ++ wRules k (adr q1 u2) zOS) E hW 0 rfl rfl rfl (Nat.le_of_ble_eq_true rfl) dX4_init_22 rfl (fun H locs hW => ?_)
  refine k_aload_n E hl 0 dX4_init_25 rfl ?_
  refine lv_iconst (v := (0 : Int32)) E.hx E.hb dX4_init_26 ic_0 ?_
  refine pf_X4_25 (ws2 := [(a0, .inr (3, [.null, .null, .ref q1, .int (0 : Int32), .int (-1 : Int32), .int (0 : Int32), .int 0, .int 0, .null, .int 0, .int 0, .int 0]))] ++ wRules k (adr q1 u2) zOS) E hW 0 rfl rfl rfl (Nat.le_of_ble_eq_true rfl) dX4_init_27 rfl (fun H locs hW => ?_)
  refine k_aload_n E hl 0 dX4_init_30 rfl ?_
  refine lv_iconst (v := (0 : Int32)) E.hx E.hb dX4_init_31 ic_0 ?_
  refine pf_X4_28 (ws2 := [(a0, .inr (3, [.null, .null, .ref q1, .int (0 : Int32), .int (-1 : Int32), .int (0 : Int32), .int (0 : Int32), .int 0, .null, .int 0, .int 0, .int 0]))] ++ wRules k (adr q1 u2) zOS) E hW 0 rfl rfl rfl (Nat.le_of_ble_eq_true rfl) dX4_init_32 rfl (fun H locs hW => ?_)
  refine k_aload_n E hl 0 dX4_init_35 rfl ?_
  refine lv_iconst (v := (0 : Int32)) E.hx E.hb dX4_init_36 ic_0 ?_
  refine pf_X4_31 (ws2 := [(a0, .inr (3, [.null, .null, .ref q1, .int (0 : Int32), .int (-1 : Int32), .int (0 : Int32), .int (0 : Int32), .int (0 : Int32), .null, .int 0, .int 0, .int 0]))] ++ wRules k (adr q1 u2) zOS) E hW 0 rfl rfl rfl (Nat.le_of_ble_eq_true rfl) dX4_init_37 rfl (fun H locs hW => ?_)
  refine k_aload_n E hl 0 dX4_init_40 rfl ?_
  refine k_wconst hE E hW (n := "OTHER") (0 : Int32) (by decide) rfl tm_299 dX4_init_41 ?_
  refine pf_X4_40 (ws2 := [(a0, .inr (3, [.null, .null, .ref q1, .int (0 : Int32), .int (-1 : Int32), .int (0 : Int32), .int (0 : Int32), .int (0 : Int32), .ref (wordAd k (0 : Int32)), .int 0, .int 0, .int 0]))] ++ wRules k (adr q1 u2) zOS) E hW 0 rfl rfl rfl (Nat.le_of_ble_eq_true rfl) dX4_init_44 rfl (fun H locs hW => ?_)
  refine k_aload_n E hl 0 dX4_init_47 rfl ?_
  refine lv_iconst (v := (0 : Int32)) E.hx E.hb dX4_init_48 ic_0 ?_
  refine pf_X4_43 (ws2 := [(a0, .inr (3, [.null, .null, .ref q1, .int (0 : Int32), .int (-1 : Int32), .int (0 : Int32), .int (0 : Int32), .int (0 : Int32), .ref (wordAd k (0 : Int32)), .int (0 : Int32), .int 0, .int 0]))] ++ wRules k (adr q1 u2) zOS) E hW 0 rfl rfl rfl (Nat.le_of_ble_eq_true rfl) dX4_init_49 rfl (fun H locs hW => ?_)
  refine k_aload_n E hl 0 dX4_init_52 rfl ?_
  refine lv_iconst (v := (0 : Int32)) E.hx E.hb dX4_init_53 ic_0 ?_
  refine pf_X4_46 (ws2 := [(a0, .inr (3, [.null, .null, .ref q1, .int (0 : Int32), .int (-1 : Int32), .int (0 : Int32), .int (0 : Int32), .int (0 : Int32), .ref (wordAd k (0 : Int32)), .int (0 : Int32), .int (0 : Int32), .int 0]))] ++ wRules k (adr q1 u2) zOS) E hW 0 rfl rfl rfl (Nat.le_of_ble_eq_true rfl) dX4_init_54 rfl (fun H locs hW => ?_)
  refine k_aload_n E hl 0 dX4_init_57 rfl ?_
  refine lv_iconst (v := (0 : Int32)) E.hx E.hb dX4_init_58 ic_0 ?_
  refine pf_X4_49 (ws2 := [(a0, .inr (3, [.null, .null, .ref q1, .int (0 : Int32), .int (-1 : Int32), .int (0 : Int32), .int (0 : Int32), .int (0 : Int32), .ref (wordAd k (0 : Int32)), .int (0 : Int32), .int (0 : Int32), .int (0 : Int32)]))] ++ wRules k (adr q1 u2) zOS) E hW 0 rfl rfl rfl (Nat.le_of_ble_eq_true rfl) dX4_init_59 rfl (fun H locs hW => ?_)
  refine k_aload_n E hl 0 dX4_init_62 rfl ?_
  refine k_aload_n E hl 1 dX4_init_63 rfl ?_
  refine pf_X4_52 (ws2 := [(a0, .inr (3, [.ref xin, .null, .ref q1, .int (0 : Int32), .int (-1 : Int32), .int (0 : Int32), .int (0 : Int32), .int (0 : Int32), .ref (wordAd k (0 : Int32)), .int (0 : Int32), .int (0 : Int32), .int (0 : Int32)]))] ++ wRules k (adr q1 u2) zOS) E hW 0 rfl hnm rfl rfl (Nat.le_of_ble_eq_true rfl) dX4_init_64 rfl (fun H locs hW => ?_)
  refine k_aload_n E hl 0 dX4_init_67 rfl ?_
  refine k_aload_n E hl 2 dX4_init_68 rfl ?_
  refine pf_X4_56 (ws2 := [(a0, .inr (3, [.ref xin, .ref xco, .ref q1, .int (0 : Int32), .int (-1 : Int32), .int (0 : Int32), .int (0 : Int32), .int (0 : Int32), .ref (wordAd k (0 : Int32)), .int (0 : Int32), .int (0 : Int32), .int (0 : Int32)]))] ++ wRules k (adr q1 u2) zOS) E hW 0 rfl hnm rfl rfl (Nat.le_of_ble_eq_true rfl) dX4_init_69 rfl (fun H locs hW => ?_)
  exact hret (adr q1 u2) _ _ _ _ _ _ hW trivial (by first | exact Nat.le_of_ble_eq_true rfl | exact Nat.zero_le _ | simp) (by first | exact Nat.le_of_ble_eq_true rfl | exact Nat.zero_le _ | simp) dX4_init_72
def f_X8_init (n : Nat) : Option (OS × OS) :=
  bnd (f_X5_begin n zOS (4 : Int32)) (fun (b1 : OS) =>
  bnd (f_X2_begin n zOS (4 : Int32)) (fun (b2 : OS) =>
  some (b1, b2)))
set_option maxHeartbeats 4000000 in
set_option maxRecDepth 100000 in
theorem c_X8_init (n : Nat) (l : Launch) (k : KT) (hE : EH k) (hO : AOH k) (a0 : Nat) (res : OS × OS) (hf : f_X8_init n = some res) : CG l k yX8_init cX8_init 1 none 4 37 5421 86 [.ref a0] [(a0, .inr (6, [.null, .null, .null, .null, .null, .null, .null, .null, .int 0]))] (Qv k (fun u : Nat → Nat → Nat => wMCo k (fun _ => a0) (u 0 0) (u 1 0) (u 2 0) (u 3 0) (u 4 0) (u 5 0) (u 7 0) .null zOS ++ wBytes k (u 0) 600 zOS ++ wBytes k (u 1) 1024 zOS ++ wRules k (u 2) res.1 ++ wCourt k (u 3) res.2 ++ wCourt k (u 4) zOS ++ wReader k (u 5) (u 0 0) (u 4 0) (u 6 0) zRd ++ wRules k (u 6) zOS ++ wPast k (u 7) (fun _ _ => 0) zPS) (fun _ => True)) := by
  refine CG.ofV (by decide) (Nat.le_of_ble_eq_true rfl) (fun p e s m args below meth c A Q E hnm hW hA hret ls hl => ?_)
  have hl : lv_has ls 1 [(0, .ref a0)] := hl
  unfold f_X8_init at hf
  refine k_aload_n E hl 0 dX8_init_0 rfl ?_
  refine k_objInit E hl tm_138 dX8_init_1 (by first | exact Nat.le_of_ble_eq_true rfl | exact Nat.zero_le _ | simp) (by first | exact Nat.le_of_ble_eq_true rfl | exact Nat.zero_le _ | simp) ?_
  refine k_aload_n E hl 0 dX8_init_4 rfl ?_
  refine nw_X8_9 E hW hA (by decide) (by decide) dX8_init_5 (fun q1 H hW => ?_)
  have hW : WD k A s.heap ([(a0, .inr (6, [.null, .null, .null, .null, .null, .null, .null, .null, .int 0]))] ++ [(q1, .inr (0, [.null, .int 0]))]) H _ := hW
  refine lv_dup E.hx E.hb dX8_init_8 rfl ?_
  refine lv_sipush (v := (600 : Int32)) E.hx E.hb dX8_init_9 sp_600 ?_
  refine k_callNew (As := [.int (600 : Int32)]) (rest := [.ref q1, .ref a0]) (c_X1_init l k q1 (600 : Int32) 600 (by decide) (by decide) (by decide) (by decide)) E il_X8_11 dX8_init_12 rfl hW hA hl rfl ⟨by decide, by decide⟩ ⟨by decide, by decide⟩ (Nat.le_of_ble_eq_true rfl) (fun u2 H locs _ hW => ?_)
  have hW : WD k A s.heap ([(a0, .inr (6, [.null, .null, .null, .null, .null, .null, .null, .null, .int 0]))] ++ wBytes k (adr q1 u2) 600 zOS) H locs := hW
  refine pf_X8_14 (ws2 := [(a0, .inr (6, [.ref q1, .null, .null, .null, .null, .null, .null, .null, .int 0]))] ++ wBytes k (adr q1 u2) 600 zOS) E hW 0 rfl hnm rfl rfl (Nat.le_of_ble_eq_true rfl) dX8_init_15 rfl (fun H locs hW => ?_)
  refine k_aload_n E hl 0 dX8_init_18 rfl ?_
  refine nw_X8_9 E hW hA (by decide) (by decide) dX8_init_19 (fun q3 H hW => ?_)
  have hW : WD k A s.heap ([(a0, .inr (6, [.ref q1, .null, .null, .null, .null, .null, .null, .null, .int 0]))] ++ wBytes k (adr q1 u2) 600 zOS ++ [(q3, .inr (0, [.null, .int 0]))]) H _ := hW
  refine lv_dup E.hx E.hb dX8_init_22 rfl ?_
  refine lv_sipush (v := (1024 : Int32)) E.hx E.hb dX8_init_23 sp_1024 ?_
  refine k_callNew (As := [.int (1024 : Int32)]) (rest := [.ref q3, .ref a0]) (c_X1_init l k q3 (1024 : Int32) 1024 (by decide) (by decide) (by decide) (by decide)) E il_X8_11 dX8_init_26 rfl hW hA hl rfl ⟨by decide, by decide⟩ ⟨by decide, by decide⟩ (Nat.le_of_ble_eq_true rfl) (fun u4 H locs _ hW => ?_)
  have hW : WD k A s.heap ([(a0, .inr (6, [.ref q1, .null, .null, .null, .null, .null, .null, .null, .int 0]))] ++ wBytes k (adr q1 u2) 600 zOS ++ wBytes k (adr q3 u4) 1024 zOS) H locs := hW
  refine pf_X8_18 (ws2 := [(a0, .inr (6, [.ref q1, .ref q3, .null, .null, .null, .null, .null, .null, .int 0]))] ++ wBytes k (adr q1 u2) 600 zOS ++ wBytes k (adr q3 u4) 1024 zOS) E hW 0 rfl hnm rfl rfl (Nat.le_of_ble_eq_true rfl) dX8_init_29 rfl (fun H locs hW => ?_)
  refine k_aload_n E hl 0 dX8_init_32 rfl ?_
  refine nw_X8_21 E hW hA (by decide) (by decide) dX8_init_33 (fun q5 H hW => ?_)
  have hW : WD k A s.heap ([(a0, .inr (6, [.ref q1, .ref q3, .null, .null, .null, .null, .null, .null, .int 0]))] ++ wBytes k (adr q1 u2) 600 zOS ++ wBytes k (adr q3 u4) 1024 zOS ++ [(q5, .inr (4, [.int 0, .int 0, .int 0, .int 0, .int 0, .int 0, .int 0, .null]))]) H _ := hW
  refine lv_dup E.hx E.hb dX8_init_36 rfl ?_
  refine k_callNewN (As := []) (rest := [.ref q5, .ref a0]) (c_X5_init l k q5) E il_X8_23 dX8_init_37 rfl hW hA hl rfl ⟨by decide, by decide⟩ ⟨by decide, by decide⟩ (Nat.le_of_ble_eq_true rfl) (fun u6 H locs _ hW => ?_)
  have hW : WD k A s.heap ([(a0, .inr (6, [.ref q1, .ref q3, .null, .null, .null, .null, .null, .null, .int 0]))] ++ wBytes k (adr q1 u2) 600 zOS ++ wBytes k (adr q3 u4) 1024 zOS ++ wRules k (adr q5 u6) zOS) H locs := hW
  refine pf_X8_24 (ws2 := [(a0, .inr (6, [.ref q1, .ref q3, .ref q5, .null, .null, .null, .null, .null, .int 0]))] ++ wBytes k (adr q1 u2) 600 zOS ++ wBytes k (adr q3 u4) 1024 zOS ++ wRules k (adr q5 u6) zOS) E hW 0 rfl hnm rfl rfl (Nat.le_of_ble_eq_true rfl) dX8_init_40 rfl (fun H locs hW => ?_)
  refine k_aload_n E hl 0 dX8_init_43 rfl ?_
  refine nw_X8_28 E hW hA (by decide) (by decide) dX8_init_44 (fun q7 H hW => ?_)
  have hW : WD k A s.heap ([(a0, .inr (6, [.ref q1, .ref q3, .ref q5, .null, .null, .null, .null, .null, .int 0]))] ++ wBytes k (adr q1 u2) 600 zOS ++ wBytes k (adr q3 u4) 1024 zOS ++ wRules k (adr q5 u6) zOS ++ [(q7, .inr (1, [.int 0, .int 0, .int 0, .int 0, .int 0, .int 0, .int 0, .int 0, .int 0, .null, .null, .null, .null, .null, .null, .null]))]) H _ := hW
  refine lv_dup E.hx E.hb dX8_init_47 rfl ?_
  refine k_callNewN (As := []) (rest := [.ref q7, .ref a0]) (c_X2_init l k q7) E il_X8_30 dX8_init_48 rfl hW hA hl rfl ⟨by decide, by decide⟩ ⟨by decide, by decide⟩ (Nat.le_of_ble_eq_true rfl) (fun u8 H locs _ hW => ?_)
  have hW : WD k A s.heap ([(a0, .inr (6, [.ref q1, .ref q3, .ref q5, .null, .null, .null, .null, .null, .int 0]))] ++ wBytes k (adr q1 u2) 600 zOS ++ wBytes k (adr q3 u4) 1024 zOS ++ wRules k (adr q5 u6) zOS ++ wCourt k (adr q7 u8) zOS) H locs := hW
  refine pf_X8_31 (ws2 := [(a0, .inr (6, [.ref q1, .ref q3, .ref q5, .ref q7, .null, .null, .null, .null, .int 0]))] ++ wBytes k (adr q1 u2) 600 zOS ++ wBytes k (adr q3 u4) 1024 zOS ++ wRules k (adr q5 u6) zOS ++ wCourt k (adr q7 u8) zOS) E hW 0 rfl hnm rfl rfl (Nat.le_of_ble_eq_true rfl) dX8_init_51 rfl (fun H locs hW => ?_)
  refine k_aload_n E hl 0 dX8_init_54 rfl ?_
  refine nw_X8_28 E hW hA (by decide) (by decide) dX8_init_55 (fun q9 H hW => ?_)
  have hW : WD k A s.heap ([(a0, .inr (6, [.ref q1, .ref q3, .ref q5, .ref q7, .null, .null, .null, .null, .int 0]))] ++ wBytes k (adr q1 u2) 600 zOS ++ wBytes k (adr q3 u4) 1024 zOS ++ wRules k (adr q5 u6) zOS ++ wCourt k (adr q7 u8) zOS ++ [(q9, .inr (1, [.int 0, .int 0, .int 0, .int 0, .int 0, .int 0, .int 0, .int 0, .int 0, .null, .null, .null, .null, .null, .null, .null]))]) H _ := hW
  refine lv_dup E.hx E.hb dX8_init_58 rfl ?_
  refine k_callNewN (As := []) (rest := [.ref q9, .ref a0]) (c_X2_init l k q9) E il_X8_30 dX8_init_59 rfl hW hA hl rfl ⟨by decide, by decide⟩ ⟨by decide, by decide⟩ (Nat.le_of_ble_eq_true rfl) (fun u10 H locs _ hW => ?_)
  have hW : WD k A s.heap ([(a0, .inr (6, [.ref q1, .ref q3, .ref q5, .ref q7, .null, .null, .null, .null, .int 0]))] ++ wBytes k (adr q1 u2) 600 zOS ++ wBytes k (adr q3 u4) 1024 zOS ++ wRules k (adr q5 u6) zOS ++ wCourt k (adr q7 u8) zOS ++ wCourt k (adr q9 u10) zOS) H locs := hW
  refine pf_X8_35 (ws2 := [(a0, .inr (6, [.ref q1, .ref q3, .ref q5, .ref q7, .ref q9, .null, .null, .null, .int 0]))] ++ wBytes k (adr q1 u2) 600 zOS ++ wBytes k (adr q3 u4) 1024 zOS ++ wRules k (adr q5 u6) zOS ++ wCourt k (adr q7 u8) zOS ++ wCourt k (adr q9 u10) zOS) E hW 0 rfl hnm rfl rfl (Nat.le_of_ble_eq_true rfl) dX8_init_62 rfl (fun H locs hW => ?_)
  refine k_aload_n E hl 0 dX8_init_65 rfl ?_
  refine nw_X8_38 E hW hA (by decide) (by decide) dX8_init_66 (fun q11 H hW => ?_)
  have hW : WD k A s.heap ([(a0, .inr (6, [.ref q1, .ref q3, .ref q5, .ref q7, .ref q9, .null, .null, .null, .int 0]))] ++ wBytes k (adr q1 u2) 600 zOS ++ wBytes k (adr q3 u4) 1024 zOS ++ wRules k (adr q5 u6) zOS ++ wCourt k (adr q7 u8) zOS ++ wCourt k (adr q9 u10) zOS ++ [(q11, .inr (3, [.null, .null, .null, .int 0, .int 0, .int 0, .int 0, .int 0, .null, .int 0, .int 0, .int 0]))]) H _ := hW
  refine lv_dup E.hx E.hb dX8_init_69 rfl ?_
  refine k_aload_n E hl 0 dX8_init_70 rfl ?_
  refine gf_X8_14 E hW 0 rfl rfl dX8_init_71 ?_
  refine k_aload_n E hl 0 dX8_init_74 rfl ?_
  refine gf_X8_35 E hW 0 rfl rfl dX8_init_75 ?_
  refine k_callNew (As := [.ref q1, .ref q9]) (rest := [.ref q11, .ref a0]) (c_X4_init l k hE q11 q1 q9) E il_X8_40 dX8_init_78 rfl hW hA hl rfl ⟨by decide, by decide⟩ ⟨by decide, by decide⟩ (Nat.le_of_ble_eq_true rfl) (fun u12 H locs _ hW => ?_)
  have hW : WD k A s.heap ([(a0, .inr (6, [.ref q1, .ref q3, .ref q5, .ref q7, .ref q9, .null, .null, .null, .int 0]))] ++ wBytes k (adr q1 u2) 600 zOS ++ wBytes k (adr q3 u4) 1024 zOS ++ wRules k (adr q5 u6) zOS ++ wCourt k (adr q7 u8) zOS ++ wCourt k (adr q9 u10) zOS ++ wReader k (fun _ => q11) q1 q9 (u12 0) zRd ++ wRules k u12 zOS) H locs := by rw [List.append_assoc]; exact hW
  refine pf_X8_43 (ws2 := [(a0, .inr (6, [.ref q1, .ref q3, .ref q5, .ref q7, .ref q9, .ref q11, .null, .null, .int 0]))] ++ wBytes k (adr q1 u2) 600 zOS ++ wBytes k (adr q3 u4) 1024 zOS ++ wRules k (adr q5 u6) zOS ++ wCourt k (adr q7 u8) zOS ++ wCourt k (adr q9 u10) zOS ++ wReader k (fun _ => q11) q1 q9 (u12 0) zRd ++ wRules k u12 zOS) E hW 0 rfl hnm rfl rfl (Nat.le_of_ble_eq_true rfl) dX8_init_81 rfl (fun H locs hW => ?_)
  refine k_aload_n E hl 0 dX8_init_84 rfl ?_
  refine nw_X8_47 E hW hA (by decide) (by decide) dX8_init_85 (fun q13 H hW => ?_)
  have hW : WD k A s.heap ([(a0, .inr (6, [.ref q1, .ref q3, .ref q5, .ref q7, .ref q9, .ref q11, .null, .null, .int 0]))] ++ wBytes k (adr q1 u2) 600 zOS ++ wBytes k (adr q3 u4) 1024 zOS ++ wRules k (adr q5 u6) zOS ++ wCourt k (adr q7 u8) zOS ++ wCourt k (adr q9 u10) zOS ++ wReader k (fun _ => q11) q1 q9 (u12 0) zRd ++ wRules k u12 zOS ++ [(q13, .inr (2, [.null, .int 0, .int 0]))]) H _ := hW
  refine lv_dup E.hx E.hb dX8_init_88 rfl ?_
  refine k_callNewN (As := []) (rest := [.ref q13, .ref a0]) (c_X3_init l k hO q13) E il_X8_49 dX8_init_89 rfl hW hA hl rfl ⟨by decide, by decide⟩ ⟨by decide, by decide⟩ (Nat.le_of_ble_eq_true rfl) (fun u14 H locs _ hW => ?_)
  have hW : WD k A s.heap ([(a0, .inr (6, [.ref q1, .ref q3, .ref q5, .ref q7, .ref q9, .ref q11, .null, .null, .int 0]))] ++ wBytes k (adr q1 u2) 600 zOS ++ wBytes k (adr q3 u4) 1024 zOS ++ wRules k (adr q5 u6) zOS ++ wCourt k (adr q7 u8) zOS ++ wCourt k (adr q9 u10) zOS ++ wReader k (fun _ => q11) q1 q9 (u12 0) zRd ++ wRules k u12 zOS ++ wPast k (adr q13 u14) (fun _ _ => 0) zPS) H locs := hW
  refine pf_X8_50 (ws2 := [(a0, .inr (6, [.ref q1, .ref q3, .ref q5, .ref q7, .ref q9, .ref q11, .ref q13, .null, .int 0]))] ++ wBytes k (adr q1 u2) 600 zOS ++ wBytes k (adr q3 u4) 1024 zOS ++ wRules k (adr q5 u6) zOS ++ wCourt k (adr q7 u8) zOS ++ wCourt k (adr q9 u10) zOS ++ wReader k (fun _ => q11) q1 q9 (u12 0) zRd ++ wRules k u12 zOS ++ wPast k (adr q13 u14) (fun _ _ => 0) zPS) E hW 0 rfl hnm rfl rfl (Nat.le_of_ble_eq_true rfl) dX8_init_92 rfl (fun H locs hW => ?_)
  refine k_aload_n E hl 0 dX8_init_95 rfl ?_
  refine lv_null E.hx E.hb dX8_init_96 ?_
  refine pf_X8_54 (ws2 := [(a0, .inr (6, [.ref q1, .ref q3, .ref q5, .ref q7, .ref q9, .ref q11, .ref q13, .null, .int 0]))] ++ wBytes k (adr q1 u2) 600 zOS ++ wBytes k (adr q3 u4) 1024 zOS ++ wRules k (adr q5 u6) zOS ++ wCourt k (adr q7 u8) zOS ++ wCourt k (adr q9 u10) zOS ++ wReader k (fun _ => q11) q1 q9 (u12 0) zRd ++ wRules k u12 zOS ++ wPast k (adr q13 u14) (fun _ _ => 0) zPS) E hW 0 rfl rfl rfl (Nat.le_of_ble_eq_true rfl) dX8_init_97 rfl (fun H locs hW => ?_)
  refine k_aload_n E hl 0 dX8_init_100 rfl ?_
  refine lv_iconst (v := (0 : Int32)) E.hx E.hb dX8_init_101 ic_0 ?_
  refine pf_X8_57 (ws2 := [(a0, .inr (6, [.ref q1, .ref q3, .ref q5, .ref q7, .ref q9, .ref q11, .ref q13, .null, .int (0 : Int32)]))] ++ wBytes k (adr q1 u2) 600 zOS ++ wBytes k (adr q3 u4) 1024 zOS ++ wRules k (adr q5 u6) zOS ++ wCourt k (adr q7 u8) zOS ++ wCourt k (adr q9 u10) zOS ++ wReader k (fun _ => q11) q1 q9 (u12 0) zRd ++ wRules k u12 zOS ++ wPast k (adr q13 u14) (fun _ _ => 0) zPS) E hW 0 rfl rfl rfl (Nat.le_of_ble_eq_true rfl) dX8_init_102 rfl (fun H locs hW => ?_)
  refine k_aload_n E hl 0 dX8_init_105 rfl ?_
  refine gf_X8_24 E hW 0 rfl rfl dX8_init_106 ?_
  refine k_wconst hE E hW (n := "PAGES") (1 : Int32) (by decide) rfl tm_360 dX8_init_109 ?_
  refine k_wusual hE E hW (by unfold vp_in; decide) tm_1982 dX8_init_112 ?_
  refine k_topi (y := (4 : Int32)) (by decide) ?_
  obtain ⟨b115, hg, hf⟩ := ob hf
  refine k_callVv (As := [.int (4 : Int32)]) (rest := []) (ws2 := fun u => [(a0, .inr (6, [.ref q1, .ref q3, .ref q5, .ref q7, .ref q9, .ref q11, .ref q13, .null, .int (0 : Int32)]))] ++ wBytes k (adr q1 u2) 600 zOS ++ wBytes k (adr q3 u4) 1024 zOS ++ wRules k (adr q5 u6) u ++ wCourt k (adr q7 u8) zOS ++ wCourt k (adr q9 u10) zOS ++ wReader k (fun _ => q11) q1 q9 (u12 0) zRd ++ wRules k u12 zOS ++ wPast k (adr q13 u14) (fun _ _ => 0) zPS) (c_X5_begin n l k hE (adr q5 u6) zOS (4 : Int32) b115 hg) E vl_X8_71 dX8_init_115 rfl [5, 6, 7] 4 5 hW hA hl rfl rfl rfl rfl ⟨by decide, by decide⟩ ⟨by decide, by decide⟩ (Nat.le_of_ble_eq_true rfl) rfl (fun _ => rfl) (fun _ => rfl) (fun u H locs hp hW => ?_)
  cases hp
  have hW : WD k A s.heap ([(a0, .inr (6, [.ref q1, .ref q3, .ref q5, .ref q7, .ref q9, .ref q11, .ref q13, .null, .int (0 : Int32)]))] ++ wBytes k (adr q1 u2) 600 zOS ++ wBytes k (adr q3 u4) 1024 zOS ++ wRules k (adr q5 u6) b115 ++ wCourt k (adr q7 u8) zOS ++ wCourt k (adr q9 u10) zOS ++ wReader k (fun _ => q11) q1 q9 (u12 0) zRd ++ wRules k u12 zOS ++ wPast k (adr q13 u14) (fun _ _ => 0) zPS) H _ := hW
  refine k_aload_n E hl 0 dX8_init_118 rfl ?_
  refine gf_X8_31 E hW 0 rfl rfl dX8_init_119 ?_
  refine k_wconst hE E hW (n := "PAGES") (1 : Int32) (by decide) rfl tm_360 dX8_init_122 ?_
  refine k_wusual hE E hW (by unfold vp_in; decide) tm_1982 dX8_init_125 ?_
  refine k_topi (y := (4 : Int32)) (by decide) ?_
  obtain ⟨b128, hg, hf⟩ := ob hf
  refine k_callVv (As := [.int (4 : Int32)]) (rest := []) (ws2 := fun u => [(a0, .inr (6, [.ref q1, .ref q3, .ref q5, .ref q7, .ref q9, .ref q11, .ref q13, .null, .int (0 : Int32)]))] ++ wBytes k (adr q1 u2) 600 zOS ++ wBytes k (adr q3 u4) 1024 zOS ++ wRules k (adr q5 u6) b115 ++ wCourt k (adr q7 u8) u ++ wCourt k (adr q9 u10) zOS ++ wReader k (fun _ => q11) q1 q9 (u12 0) zRd ++ wRules k u12 zOS ++ wPast k (adr q13 u14) (fun _ _ => 0) zPS) (c_X2_begin n l k (adr q7 u8) zOS (4 : Int32) b128 hg) E vl_X8_74 dX8_init_128 rfl [8, 9, 10, 11, 12, 13, 14, 15, 16, 17, 18, 19] 1 8 hW hA hl rfl rfl rfl rfl ⟨by decide, by decide⟩ ⟨by decide, by decide⟩ (Nat.le_of_ble_eq_true rfl) rfl (fun _ => rfl) (fun _ => rfl) (fun u H locs hp hW => ?_)
  cases hp
  have hW : WD k A s.heap ([(a0, .inr (6, [.ref q1, .ref q3, .ref q5, .ref q7, .ref q9, .ref q11, .ref q13, .null, .int (0 : Int32)]))] ++ wBytes k (adr q1 u2) 600 zOS ++ wBytes k (adr q3 u4) 1024 zOS ++ wRules k (adr q5 u6) b115 ++ wCourt k (adr q7 u8) b128 ++ wCourt k (adr q9 u10) zOS ++ wReader k (fun _ => q11) q1 q9 (u12 0) zRd ++ wRules k u12 zOS ++ wPast k (adr q13 u14) (fun _ _ => 0) zPS) H _ := hW
  cases hf; exact hret (fun i => match i with | 0 => adr q1 u2 | 1 => adr q3 u4 | 2 => adr q5 u6 | 3 => adr q7 u8 | 4 => adr q9 u10 | 5 => (fun _ => q11) | 6 => u12 | 7 => adr q13 u14 | _ => lst []) _ _ _ _ _ _ hW trivial (by decide) (by decide) dX8_init_131
def f_X9_init (n : Nat) : Option OS :=
  bnd (f_X9_clears n zMo) (fun (m123 : OS) =>
  bnd (f_X9_takesDraft n (sI m123 33 (4 : Int32))) (fun (m132 : OS) =>
  some m132))
set_option maxHeartbeats 4000000 in
set_option maxRecDepth 100000 in
theorem c_X9_init (n : Nat) (l : Launch) (k : KT) (a0 : Nat) (res : OS) (hf : f_X9_init n = some res) : CG l k yX9_init cX9_init 1 none 2 12 25679 46 [.ref a0] [(a0, .inr (7, [.int 0, .int 0, .int 0, .int 0, .int 0, .int 0, .int 0, .int 0, .null, .null, .null, .null, .null, .null, .null, .int 0, .int 0, .int 0, .int 0, .int 0, .int 0, .null, .null, .int 0, .int 0, .int 0, .int 0, .int 0, .int 0, .int 0, .long 0, .int 0, .int 0, .int 0, .int 0, .int 0, .int 0, .null, .null, .null, .int 0]))] (Qv k (fun u : Nat → Nat => wModel k (adr a0 u) res) (fun _ => True)) := by
  refine CG.ofV (by decide) (Nat.le_of_ble_eq_true rfl) (fun p e s m args below meth c A Q E hnm hW hA hret ls hl => ?_)
  have hl : lv_has ls 1 [(0, .ref a0)] := hl
  unfold f_X9_init at hf
  refine k_aload_n E hl 0 dX9_init_0 rfl ?_
  refine k_objInit E hl tm_1301 dX9_init_1 (by first | exact Nat.le_of_ble_eq_true rfl | exact Nat.zero_le _ | simp) (by first | exact Nat.le_of_ble_eq_true rfl | exact Nat.zero_le _ | simp) ?_
  refine k_aload_n E hl 0 dX9_init_4 rfl ?_
  refine lv_bipush (v := (8 : Int32)) E.hx E.hb dX9_init_5 bp_8 ?_
  refine k_newJ (N := 8) E hW hA (by decide) (by decide) (by decide) (by decide) (by decide) dX9_init_7 (fun q1 H hW => ?_)
  have hW : WD k A s.heap ([(a0, .inr (7, [.int 0, .int 0, .int 0, .int 0, .int 0, .int 0, .int 0, .int 0, .null, .null, .null, .null, .null, .null, .null, .int 0, .int 0, .int 0, .int 0, .int 0, .int 0, .null, .null, .int 0, .int 0, .int 0, .int 0, .int 0, .int 0, .int 0, .long 0, .int 0, .int 0, .int 0, .int 0, .int 0, .int 0, .null, .null, .null, .int 0]))] ++ [(q1, .inl (k.2.1.1 1, 8, .inr (.inl (fun _ => 0))))]) H _ := hW
  refine pf_X9_7 (ws2 := [(a0, .inr (7, [.int 0, .int 0, .int 0, .int 0, .int 0, .int 0, .int 0, .int 0, .ref q1, .null, .null, .null, .null, .null, .null, .int 0, .int 0, .int 0, .int 0, .int 0, .int 0, .null, .null, .int 0, .int 0, .int 0, .int 0, .int 0, .int 0, .int 0, .long 0, .int 0, .int 0, .int 0, .int 0, .int 0, .int 0, .null, .null, .null, .int 0]))] ++ [(q1, .inl (k.2.1.1 1, 8, .inr (.inl (fun _ => 0))))]) E hW 0 rfl hnm rfl rfl (Nat.le_of_ble_eq_true rfl) dX9_init_9 rfl (fun H locs hW => ?_)
  refine k_aload_n E hl 0 dX9_init_12 rfl ?_
  refine lv_sipush (v := (1846 : Int32)) E.hx E.hb dX9_init_13 sp_1846 ?_
  refine k_newI (N := 1846) E hW hA (by decide) (by decide) (by decide) (by decide) (by decide) dX9_init_16 (fun q2 H hW => ?_)
  have hW : WD k A s.heap ([(a0, .inr (7, [.int 0, .int 0, .int 0, .int 0, .int 0, .int 0, .int 0, .int 0, .ref q1, .null, .null, .null, .null, .null, .null, .int 0, .int 0, .int 0, .int 0, .int 0, .int 0, .null, .null, .int 0, .int 0, .int 0, .int 0, .int 0, .int 0, .int 0, .long 0, .int 0, .int 0, .int 0, .int 0, .int 0, .int 0, .null, .null, .null, .int 0]))] ++ [(q1, .inl (k.2.1.1 1, 8, .inr (.inl (fun _ => 0))))] ++ [(q2, .inl (k.2.1.1 0, 1846, .inl (fun _ => 0)))]) H _ := hW
  refine pf_X9_13 (ws2 := [(a0, .inr (7, [.int 0, .int 0, .int 0, .int 0, .int 0, .int 0, .int 0, .int 0, .ref q1, .ref q2, .null, .null, .null, .null, .null, .int 0, .int 0, .int 0, .int 0, .int 0, .int 0, .null, .null, .int 0, .int 0, .int 0, .int 0, .int 0, .int 0, .int 0, .long 0, .int 0, .int 0, .int 0, .int 0, .int 0, .int 0, .null, .null, .null, .int 0]))] ++ [(q1, .inl (k.2.1.1 1, 8, .inr (.inl (fun _ => 0))))] ++ [(q2, .inl (k.2.1.1 0, 1846, .inl (fun _ => 0)))]) E hW 0 rfl hnm rfl rfl (Nat.le_of_ble_eq_true rfl) dX9_init_18 rfl (fun H locs hW => ?_)
  refine k_aload_n E hl 0 dX9_init_21 rfl ?_
  refine lv_sipush (v := (1846 : Int32)) E.hx E.hb dX9_init_22 sp_1846 ?_
  refine k_newI (N := 1846) E hW hA (by decide) (by decide) (by decide) (by decide) (by decide) dX9_init_25 (fun q3 H hW => ?_)
  have hW : WD k A s.heap ([(a0, .inr (7, [.int 0, .int 0, .int 0, .int 0, .int 0, .int 0, .int 0, .int 0, .ref q1, .ref q2, .null, .null, .null, .null, .null, .int 0, .int 0, .int 0, .int 0, .int 0, .int 0, .null, .null, .int 0, .int 0, .int 0, .int 0, .int 0, .int 0, .int 0, .long 0, .int 0, .int 0, .int 0, .int 0, .int 0, .int 0, .null, .null, .null, .int 0]))] ++ [(q1, .inl (k.2.1.1 1, 8, .inr (.inl (fun _ => 0))))] ++ [(q2, .inl (k.2.1.1 0, 1846, .inl (fun _ => 0)))] ++ [(q3, .inl (k.2.1.1 0, 1846, .inl (fun _ => 0)))]) H _ := hW
  refine pf_X9_17 (ws2 := [(a0, .inr (7, [.int 0, .int 0, .int 0, .int 0, .int 0, .int 0, .int 0, .int 0, .ref q1, .ref q2, .ref q3, .null, .null, .null, .null, .int 0, .int 0, .int 0, .int 0, .int 0, .int 0, .null, .null, .int 0, .int 0, .int 0, .int 0, .int 0, .int 0, .int 0, .long 0, .int 0, .int 0, .int 0, .int 0, .int 0, .int 0, .null, .null, .null, .int 0]))] ++ [(q1, .inl (k.2.1.1 1, 8, .inr (.inl (fun _ => 0))))] ++ [(q2, .inl (k.2.1.1 0, 1846, .inl (fun _ => 0)))] ++ [(q3, .inl (k.2.1.1 0, 1846, .inl (fun _ => 0)))]) E hW 0 rfl hnm rfl rfl (Nat.le_of_ble_eq_true rfl) dX9_init_27 rfl (fun H locs hW => ?_)
  refine k_aload_n E hl 0 dX9_init_30 rfl ?_
  refine lv_sipush (v := (1846 : Int32)) E.hx E.hb dX9_init_31 sp_1846 ?_
  refine k_newI (N := 1846) E hW hA (by decide) (by decide) (by decide) (by decide) (by decide) dX9_init_34 (fun q4 H hW => ?_)
  have hW : WD k A s.heap ([(a0, .inr (7, [.int 0, .int 0, .int 0, .int 0, .int 0, .int 0, .int 0, .int 0, .ref q1, .ref q2, .ref q3, .null, .null, .null, .null, .int 0, .int 0, .int 0, .int 0, .int 0, .int 0, .null, .null, .int 0, .int 0, .int 0, .int 0, .int 0, .int 0, .int 0, .long 0, .int 0, .int 0, .int 0, .int 0, .int 0, .int 0, .null, .null, .null, .int 0]))] ++ [(q1, .inl (k.2.1.1 1, 8, .inr (.inl (fun _ => 0))))] ++ [(q2, .inl (k.2.1.1 0, 1846, .inl (fun _ => 0)))] ++ [(q3, .inl (k.2.1.1 0, 1846, .inl (fun _ => 0)))] ++ [(q4, .inl (k.2.1.1 0, 1846, .inl (fun _ => 0)))]) H _ := hW
  refine pf_X9_20 (ws2 := [(a0, .inr (7, [.int 0, .int 0, .int 0, .int 0, .int 0, .int 0, .int 0, .int 0, .ref q1, .ref q2, .ref q3, .ref q4, .null, .null, .null, .int 0, .int 0, .int 0, .int 0, .int 0, .int 0, .null, .null, .int 0, .int 0, .int 0, .int 0, .int 0, .int 0, .int 0, .long 0, .int 0, .int 0, .int 0, .int 0, .int 0, .int 0, .null, .null, .null, .int 0]))] ++ [(q1, .inl (k.2.1.1 1, 8, .inr (.inl (fun _ => 0))))] ++ [(q2, .inl (k.2.1.1 0, 1846, .inl (fun _ => 0)))] ++ [(q3, .inl (k.2.1.1 0, 1846, .inl (fun _ => 0)))] ++ [(q4, .inl (k.2.1.1 0, 1846, .inl (fun _ => 0)))]) E hW 0 rfl hnm rfl rfl (Nat.le_of_ble_eq_true rfl) dX9_init_36 rfl (fun H locs hW => ?_)
  refine k_aload_n E hl 0 dX9_init_39 rfl ?_
  refine lv_sipush (v := (1846 : Int32)) E.hx E.hb dX9_init_40 sp_1846 ?_
  refine k_newI (N := 1846) E hW hA (by decide) (by decide) (by decide) (by decide) (by decide) dX9_init_43 (fun q5 H hW => ?_)
  have hW : WD k A s.heap ([(a0, .inr (7, [.int 0, .int 0, .int 0, .int 0, .int 0, .int 0, .int 0, .int 0, .ref q1, .ref q2, .ref q3, .ref q4, .null, .null, .null, .int 0, .int 0, .int 0, .int 0, .int 0, .int 0, .null, .null, .int 0, .int 0, .int 0, .int 0, .int 0, .int 0, .int 0, .long 0, .int 0, .int 0, .int 0, .int 0, .int 0, .int 0, .null, .null, .null, .int 0]))] ++ [(q1, .inl (k.2.1.1 1, 8, .inr (.inl (fun _ => 0))))] ++ [(q2, .inl (k.2.1.1 0, 1846, .inl (fun _ => 0)))] ++ [(q3, .inl (k.2.1.1 0, 1846, .inl (fun _ => 0)))] ++ [(q4, .inl (k.2.1.1 0, 1846, .inl (fun _ => 0)))] ++ [(q5, .inl (k.2.1.1 0, 1846, .inl (fun _ => 0)))]) H _ := hW
  refine pf_X9_23 (ws2 := [(a0, .inr (7, [.int 0, .int 0, .int 0, .int 0, .int 0, .int 0, .int 0, .int 0, .ref q1, .ref q2, .ref q3, .ref q4, .ref q5, .null, .null, .int 0, .int 0, .int 0, .int 0, .int 0, .int 0, .null, .null, .int 0, .int 0, .int 0, .int 0, .int 0, .int 0, .int 0, .long 0, .int 0, .int 0, .int 0, .int 0, .int 0, .int 0, .null, .null, .null, .int 0]))] ++ [(q1, .inl (k.2.1.1 1, 8, .inr (.inl (fun _ => 0))))] ++ [(q2, .inl (k.2.1.1 0, 1846, .inl (fun _ => 0)))] ++ [(q3, .inl (k.2.1.1 0, 1846, .inl (fun _ => 0)))] ++ [(q4, .inl (k.2.1.1 0, 1846, .inl (fun _ => 0)))] ++ [(q5, .inl (k.2.1.1 0, 1846, .inl (fun _ => 0)))]) E hW 0 rfl hnm rfl rfl (Nat.le_of_ble_eq_true rfl) dX9_init_45 rfl (fun H locs hW => ?_)
  refine k_aload_n E hl 0 dX9_init_48 rfl ?_
  refine lv_sipush (v := (1846 : Int32)) E.hx E.hb dX9_init_49 sp_1846 ?_
  refine k_newI (N := 1846) E hW hA (by decide) (by decide) (by decide) (by decide) (by decide) dX9_init_52 (fun q6 H hW => ?_)
  have hW : WD k A s.heap ([(a0, .inr (7, [.int 0, .int 0, .int 0, .int 0, .int 0, .int 0, .int 0, .int 0, .ref q1, .ref q2, .ref q3, .ref q4, .ref q5, .null, .null, .int 0, .int 0, .int 0, .int 0, .int 0, .int 0, .null, .null, .int 0, .int 0, .int 0, .int 0, .int 0, .int 0, .int 0, .long 0, .int 0, .int 0, .int 0, .int 0, .int 0, .int 0, .null, .null, .null, .int 0]))] ++ [(q1, .inl (k.2.1.1 1, 8, .inr (.inl (fun _ => 0))))] ++ [(q2, .inl (k.2.1.1 0, 1846, .inl (fun _ => 0)))] ++ [(q3, .inl (k.2.1.1 0, 1846, .inl (fun _ => 0)))] ++ [(q4, .inl (k.2.1.1 0, 1846, .inl (fun _ => 0)))] ++ [(q5, .inl (k.2.1.1 0, 1846, .inl (fun _ => 0)))] ++ [(q6, .inl (k.2.1.1 0, 1846, .inl (fun _ => 0)))]) H _ := hW
  refine pf_X9_26 (ws2 := [(a0, .inr (7, [.int 0, .int 0, .int 0, .int 0, .int 0, .int 0, .int 0, .int 0, .ref q1, .ref q2, .ref q3, .ref q4, .ref q5, .ref q6, .null, .int 0, .int 0, .int 0, .int 0, .int 0, .int 0, .null, .null, .int 0, .int 0, .int 0, .int 0, .int 0, .int 0, .int 0, .long 0, .int 0, .int 0, .int 0, .int 0, .int 0, .int 0, .null, .null, .null, .int 0]))] ++ [(q1, .inl (k.2.1.1 1, 8, .inr (.inl (fun _ => 0))))] ++ [(q2, .inl (k.2.1.1 0, 1846, .inl (fun _ => 0)))] ++ [(q3, .inl (k.2.1.1 0, 1846, .inl (fun _ => 0)))] ++ [(q4, .inl (k.2.1.1 0, 1846, .inl (fun _ => 0)))] ++ [(q5, .inl (k.2.1.1 0, 1846, .inl (fun _ => 0)))] ++ [(q6, .inl (k.2.1.1 0, 1846, .inl (fun _ => 0)))]) E hW 0 rfl hnm rfl rfl (Nat.le_of_ble_eq_true rfl) dX9_init_54 rfl (fun H locs hW => ?_)
  refine k_aload_n E hl 0 dX9_init_57 rfl ?_
  refine lv_sipush (v := (14768 : Int32)) E.hx E.hb dX9_init_58 sp_14768 ?_
  refine k_newI (N := 14768) E hW hA (by decide) (by decide) (by decide) (by decide) (by decide) dX9_init_61 (fun q7 H hW => ?_)
  have hW : WD k A s.heap ([(a0, .inr (7, [.int 0, .int 0, .int 0, .int 0, .int 0, .int 0, .int 0, .int 0, .ref q1, .ref q2, .ref q3, .ref q4, .ref q5, .ref q6, .null, .int 0, .int 0, .int 0, .int 0, .int 0, .int 0, .null, .null, .int 0, .int 0, .int 0, .int 0, .int 0, .int 0, .int 0, .long 0, .int 0, .int 0, .int 0, .int 0, .int 0, .int 0, .null, .null, .null, .int 0]))] ++ [(q1, .inl (k.2.1.1 1, 8, .inr (.inl (fun _ => 0))))] ++ [(q2, .inl (k.2.1.1 0, 1846, .inl (fun _ => 0)))] ++ [(q3, .inl (k.2.1.1 0, 1846, .inl (fun _ => 0)))] ++ [(q4, .inl (k.2.1.1 0, 1846, .inl (fun _ => 0)))] ++ [(q5, .inl (k.2.1.1 0, 1846, .inl (fun _ => 0)))] ++ [(q6, .inl (k.2.1.1 0, 1846, .inl (fun _ => 0)))] ++ [(q7, .inl (k.2.1.1 0, 14768, .inl (fun _ => 0)))]) H _ := hW
  refine pf_X9_29 (ws2 := [(a0, .inr (7, [.int 0, .int 0, .int 0, .int 0, .int 0, .int 0, .int 0, .int 0, .ref q1, .ref q2, .ref q3, .ref q4, .ref q5, .ref q6, .ref q7, .int 0, .int 0, .int 0, .int 0, .int 0, .int 0, .null, .null, .int 0, .int 0, .int 0, .int 0, .int 0, .int 0, .int 0, .long 0, .int 0, .int 0, .int 0, .int 0, .int 0, .int 0, .null, .null, .null, .int 0]))] ++ [(q1, .inl (k.2.1.1 1, 8, .inr (.inl (fun _ => 0))))] ++ [(q2, .inl (k.2.1.1 0, 1846, .inl (fun _ => 0)))] ++ [(q3, .inl (k.2.1.1 0, 1846, .inl (fun _ => 0)))] ++ [(q4, .inl (k.2.1.1 0, 1846, .inl (fun _ => 0)))] ++ [(q5, .inl (k.2.1.1 0, 1846, .inl (fun _ => 0)))] ++ [(q6, .inl (k.2.1.1 0, 1846, .inl (fun _ => 0)))] ++ [(q7, .inl (k.2.1.1 0, 14768, .inl (fun _ => 0)))]) E hW 0 rfl hnm rfl rfl (Nat.le_of_ble_eq_true rfl) dX9_init_63 rfl (fun H locs hW => ?_)
  refine k_aload_n E hl 0 dX9_init_66 rfl ?_
  refine lv_iconst (v := (-1 : Int32)) E.hx E.hb dX9_init_67 ic_m1 ?_
  refine pf_X9_32 (ws2 := [(a0, .inr (7, [.int 0, .int 0, .int 0, .int 0, .int 0, .int 0, .int 0, .int 0, .ref q1, .ref q2, .ref q3, .ref q4, .ref q5, .ref q6, .ref q7, .int 0, .int 0, .int (-1 : Int32), .int 0, .int 0, .int 0, .null, .null, .int 0, .int 0, .int 0, .int 0, .int 0, .int 0, .int 0, .long 0, .int 0, .int 0, .int 0, .int 0, .int 0, .int 0, .null, .null, .null, .int 0]))] ++ [(q1, .inl (k.2.1.1 1, 8, .inr (.inl (fun _ => 0))))] ++ [(q2, .inl (k.2.1.1 0, 1846, .inl (fun _ => 0)))] ++ [(q3, .inl (k.2.1.1 0, 1846, .inl (fun _ => 0)))] ++ [(q4, .inl (k.2.1.1 0, 1846, .inl (fun _ => 0)))] ++ [(q5, .inl (k.2.1.1 0, 1846, .inl (fun _ => 0)))] ++ [(q6, .inl (k.2.1.1 0, 1846, .inl (fun _ => 0)))] ++ [(q7, .inl (k.2.1.1 0, 14768, .inl (fun _ => 0)))]) E hW 0 rfl rfl rfl (Nat.le_of_ble_eq_true rfl) dX9_init_68 rfl (fun H locs hW => ?_)
  refine k_aload_n E hl 0 dX9_init_71 rfl ?_
  refine lv_iconst (v := (-1 : Int32)) E.hx E.hb dX9_init_72 ic_m1 ?_
  refine pf_X9_36 (ws2 := [(a0, .inr (7, [.int 0, .int 0, .int 0, .int 0, .int 0, .int 0, .int 0, .int 0, .ref q1, .ref q2, .ref q3, .ref q4, .ref q5, .ref q6, .ref q7, .int 0, .int 0, .int (-1 : Int32), .int 0, .int (-1 : Int32), .int 0, .null, .null, .int 0, .int 0, .int 0, .int 0, .int 0, .int 0, .int 0, .long 0, .int 0, .int 0, .int 0, .int 0, .int 0, .int 0, .null, .null, .null, .int 0]))] ++ [(q1, .inl (k.2.1.1 1, 8, .inr (.inl (fun _ => 0))))] ++ [(q2, .inl (k.2.1.1 0, 1846, .inl (fun _ => 0)))] ++ [(q3, .inl (k.2.1.1 0, 1846, .inl (fun _ => 0)))] ++ [(q4, .inl (k.2.1.1 0, 1846, .inl (fun _ => 0)))] ++ [(q5, .inl (k.2.1.1 0, 1846, .inl (fun _ => 0)))] ++ [(q6, .inl (k.2.1.1 0, 1846, .inl (fun _ => 0)))] ++ [(q7, .inl (k.2.1.1 0, 14768, .inl (fun _ => 0)))]) E hW 0 rfl rfl rfl (Nat.le_of_ble_eq_true rfl) dX9_init_73 rfl (fun H locs hW => ?_)
  refine k_aload_n E hl 0 dX9_init_76 rfl ?_
  refine lv_bipush (v := (60 : Int32)) E.hx E.hb dX9_init_77 bp_60 ?_
  refine k_newI (N := 60) E hW hA (by decide) (by decide) (by decide) (by decide) (by decide) dX9_init_79 (fun q8 H hW => ?_)
  have hW : WD k A s.heap ([(a0, .inr (7, [.int 0, .int 0, .int 0, .int 0, .int 0, .int 0, .int 0, .int 0, .ref q1, .ref q2, .ref q3, .ref q4, .ref q5, .ref q6, .ref q7, .int 0, .int 0, .int (-1 : Int32), .int 0, .int (-1 : Int32), .int 0, .null, .null, .int 0, .int 0, .int 0, .int 0, .int 0, .int 0, .int 0, .long 0, .int 0, .int 0, .int 0, .int 0, .int 0, .int 0, .null, .null, .null, .int 0]))] ++ [(q1, .inl (k.2.1.1 1, 8, .inr (.inl (fun _ => 0))))] ++ [(q2, .inl (k.2.1.1 0, 1846, .inl (fun _ => 0)))] ++ [(q3, .inl (k.2.1.1 0, 1846, .inl (fun _ => 0)))] ++ [(q4, .inl (k.2.1.1 0, 1846, .inl (fun _ => 0)))] ++ [(q5, .inl (k.2.1.1 0, 1846, .inl (fun _ => 0)))] ++ [(q6, .inl (k.2.1.1 0, 1846, .inl (fun _ => 0)))] ++ [(q7, .inl (k.2.1.1 0, 14768, .inl (fun _ => 0)))] ++ [(q8, .inl (k.2.1.1 0, 60, .inl (fun _ => 0)))]) H _ := hW
  refine pf_X9_39 (ws2 := [(a0, .inr (7, [.int 0, .int 0, .int 0, .int 0, .int 0, .int 0, .int 0, .int 0, .ref q1, .ref q2, .ref q3, .ref q4, .ref q5, .ref q6, .ref q7, .int 0, .int 0, .int (-1 : Int32), .int 0, .int (-1 : Int32), .int 0, .ref q8, .null, .int 0, .int 0, .int 0, .int 0, .int 0, .int 0, .int 0, .long 0, .int 0, .int 0, .int 0, .int 0, .int 0, .int 0, .null, .null, .null, .int 0]))] ++ [(q1, .inl (k.2.1.1 1, 8, .inr (.inl (fun _ => 0))))] ++ [(q2, .inl (k.2.1.1 0, 1846, .inl (fun _ => 0)))] ++ [(q3, .inl (k.2.1.1 0, 1846, .inl (fun _ => 0)))] ++ [(q4, .inl (k.2.1.1 0, 1846, .inl (fun _ => 0)))] ++ [(q5, .inl (k.2.1.1 0, 1846, .inl (fun _ => 0)))] ++ [(q6, .inl (k.2.1.1 0, 1846, .inl (fun _ => 0)))] ++ [(q7, .inl (k.2.1.1 0, 14768, .inl (fun _ => 0)))] ++ [(q8, .inl (k.2.1.1 0, 60, .inl (fun _ => 0)))]) E hW 0 rfl hnm rfl rfl (Nat.le_of_ble_eq_true rfl) dX9_init_81 rfl (fun H locs hW => ?_)
  refine k_aload_n E hl 0 dX9_init_84 rfl ?_
  refine lv_sipush (v := (600 : Int32)) E.hx E.hb dX9_init_85 sp_600 ?_
  refine k_newB (N := 600) E hW hA (by decide) (by decide) (by decide) (by decide) (by decide) dX9_init_88 (fun q9 H hW => ?_)
  have hW : WD k A s.heap ([(a0, .inr (7, [.int 0, .int 0, .int 0, .int 0, .int 0, .int 0, .int 0, .int 0, .ref q1, .ref q2, .ref q3, .ref q4, .ref q5, .ref q6, .ref q7, .int 0, .int 0, .int (-1 : Int32), .int 0, .int (-1 : Int32), .int 0, .ref q8, .null, .int 0, .int 0, .int 0, .int 0, .int 0, .int 0, .int 0, .long 0, .int 0, .int 0, .int 0, .int 0, .int 0, .int 0, .null, .null, .null, .int 0]))] ++ [(q1, .inl (k.2.1.1 1, 8, .inr (.inl (fun _ => 0))))] ++ [(q2, .inl (k.2.1.1 0, 1846, .inl (fun _ => 0)))] ++ [(q3, .inl (k.2.1.1 0, 1846, .inl (fun _ => 0)))] ++ [(q4, .inl (k.2.1.1 0, 1846, .inl (fun _ => 0)))] ++ [(q5, .inl (k.2.1.1 0, 1846, .inl (fun _ => 0)))] ++ [(q6, .inl (k.2.1.1 0, 1846, .inl (fun _ => 0)))] ++ [(q7, .inl (k.2.1.1 0, 14768, .inl (fun _ => 0)))] ++ [(q8, .inl (k.2.1.1 0, 60, .inl (fun _ => 0)))] ++ [(q9, .inl (k.2.1.1 2, 600, .inl (fun _ => 0)))]) H _ := hW
  refine pf_X9_42 (ws2 := [(a0, .inr (7, [.int 0, .int 0, .int 0, .int 0, .int 0, .int 0, .int 0, .int 0, .ref q1, .ref q2, .ref q3, .ref q4, .ref q5, .ref q6, .ref q7, .int 0, .int 0, .int (-1 : Int32), .int 0, .int (-1 : Int32), .int 0, .ref q8, .ref q9, .int 0, .int 0, .int 0, .int 0, .int 0, .int 0, .int 0, .long 0, .int 0, .int 0, .int 0, .int 0, .int 0, .int 0, .null, .null, .null, .int 0]))] ++ [(q1, .inl (k.2.1.1 1, 8, .inr (.inl (fun _ => 0))))] ++ [(q2, .inl (k.2.1.1 0, 1846, .inl (fun _ => 0)))] ++ [(q3, .inl (k.2.1.1 0, 1846, .inl (fun _ => 0)))] ++ [(q4, .inl (k.2.1.1 0, 1846, .inl (fun _ => 0)))] ++ [(q5, .inl (k.2.1.1 0, 1846, .inl (fun _ => 0)))] ++ [(q6, .inl (k.2.1.1 0, 1846, .inl (fun _ => 0)))] ++ [(q7, .inl (k.2.1.1 0, 14768, .inl (fun _ => 0)))] ++ [(q8, .inl (k.2.1.1 0, 60, .inl (fun _ => 0)))] ++ [(q9, .inl (k.2.1.1 2, 600, .inl (fun _ => 0)))]) E hW 0 rfl hnm rfl rfl (Nat.le_of_ble_eq_true rfl) dX9_init_90 rfl (fun H locs hW => ?_)
  refine k_aload_n E hl 0 dX9_init_93 rfl ?_
  refine lv_iconst (v := (-1 : Int32)) E.hx E.hb dX9_init_94 ic_m1 ?_
  refine pf_X9_46 (ws2 := [(a0, .inr (7, [.int 0, .int 0, .int 0, .int 0, .int 0, .int 0, .int 0, .int 0, .ref q1, .ref q2, .ref q3, .ref q4, .ref q5, .ref q6, .ref q7, .int 0, .int 0, .int (-1 : Int32), .int 0, .int (-1 : Int32), .int 0, .ref q8, .ref q9, .int 0, .int 0, .int 0, .int 0, .int 0, .int 0, .int 0, .long 0, .int 0, .int (-1 : Int32), .int 0, .int 0, .int 0, .int 0, .null, .null, .null, .int 0]))] ++ [(q1, .inl (k.2.1.1 1, 8, .inr (.inl (fun _ => 0))))] ++ [(q2, .inl (k.2.1.1 0, 1846, .inl (fun _ => 0)))] ++ [(q3, .inl (k.2.1.1 0, 1846, .inl (fun _ => 0)))] ++ [(q4, .inl (k.2.1.1 0, 1846, .inl (fun _ => 0)))] ++ [(q5, .inl (k.2.1.1 0, 1846, .inl (fun _ => 0)))] ++ [(q6, .inl (k.2.1.1 0, 1846, .inl (fun _ => 0)))] ++ [(q7, .inl (k.2.1.1 0, 14768, .inl (fun _ => 0)))] ++ [(q8, .inl (k.2.1.1 0, 60, .inl (fun _ => 0)))] ++ [(q9, .inl (k.2.1.1 2, 600, .inl (fun _ => 0)))]) E hW 0 rfl rfl rfl (Nat.le_of_ble_eq_true rfl) dX9_init_95 rfl (fun H locs hW => ?_)
  refine k_aload_n E hl 0 dX9_init_98 rfl ?_
  refine lv_iconst (v := (5 : Int32)) E.hx E.hb dX9_init_99 ic_5 ?_
  refine k_newI (N := 5) E hW hA (by decide) (by decide) (by decide) (by decide) (by decide) dX9_init_100 (fun q10 H hW => ?_)
  have hW : WD k A s.heap ([(a0, .inr (7, [.int 0, .int 0, .int 0, .int 0, .int 0, .int 0, .int 0, .int 0, .ref q1, .ref q2, .ref q3, .ref q4, .ref q5, .ref q6, .ref q7, .int 0, .int 0, .int (-1 : Int32), .int 0, .int (-1 : Int32), .int 0, .ref q8, .ref q9, .int 0, .int 0, .int 0, .int 0, .int 0, .int 0, .int 0, .long 0, .int 0, .int (-1 : Int32), .int 0, .int 0, .int 0, .int 0, .null, .null, .null, .int 0]))] ++ [(q1, .inl (k.2.1.1 1, 8, .inr (.inl (fun _ => 0))))] ++ [(q2, .inl (k.2.1.1 0, 1846, .inl (fun _ => 0)))] ++ [(q3, .inl (k.2.1.1 0, 1846, .inl (fun _ => 0)))] ++ [(q4, .inl (k.2.1.1 0, 1846, .inl (fun _ => 0)))] ++ [(q5, .inl (k.2.1.1 0, 1846, .inl (fun _ => 0)))] ++ [(q6, .inl (k.2.1.1 0, 1846, .inl (fun _ => 0)))] ++ [(q7, .inl (k.2.1.1 0, 14768, .inl (fun _ => 0)))] ++ [(q8, .inl (k.2.1.1 0, 60, .inl (fun _ => 0)))] ++ [(q9, .inl (k.2.1.1 2, 600, .inl (fun _ => 0)))] ++ [(q10, .inl (k.2.1.1 0, 5, .inl (fun _ => 0)))]) H _ := hW
  refine pf_X9_49 (ws2 := [(a0, .inr (7, [.int 0, .int 0, .int 0, .int 0, .int 0, .int 0, .int 0, .int 0, .ref q1, .ref q2, .ref q3, .ref q4, .ref q5, .ref q6, .ref q7, .int 0, .int 0, .int (-1 : Int32), .int 0, .int (-1 : Int32), .int 0, .ref q8, .ref q9, .int 0, .int 0, .int 0, .int 0, .int 0, .int 0, .int 0, .long 0, .int 0, .int (-1 : Int32), .int 0, .int 0, .int 0, .int 0, .ref q10, .null, .null, .int 0]))] ++ [(q1, .inl (k.2.1.1 1, 8, .inr (.inl (fun _ => 0))))] ++ [(q2, .inl (k.2.1.1 0, 1846, .inl (fun _ => 0)))] ++ [(q3, .inl (k.2.1.1 0, 1846, .inl (fun _ => 0)))] ++ [(q4, .inl (k.2.1.1 0, 1846, .inl (fun _ => 0)))] ++ [(q5, .inl (k.2.1.1 0, 1846, .inl (fun _ => 0)))] ++ [(q6, .inl (k.2.1.1 0, 1846, .inl (fun _ => 0)))] ++ [(q7, .inl (k.2.1.1 0, 14768, .inl (fun _ => 0)))] ++ [(q8, .inl (k.2.1.1 0, 60, .inl (fun _ => 0)))] ++ [(q9, .inl (k.2.1.1 2, 600, .inl (fun _ => 0)))] ++ [(q10, .inl (k.2.1.1 0, 5, .inl (fun _ => 0)))]) E hW 0 rfl hnm rfl rfl (Nat.le_of_ble_eq_true rfl) dX9_init_102 rfl (fun H locs hW => ?_)
  refine k_aload_n E hl 0 dX9_init_105 rfl ?_
  refine lv_bipush (v := (8 : Int32)) E.hx E.hb dX9_init_106 bp_8 ?_
  refine k_newJ (N := 8) E hW hA (by decide) (by decide) (by decide) (by decide) (by decide) dX9_init_108 (fun q11 H hW => ?_)
  have hW : WD k A s.heap ([(a0, .inr (7, [.int 0, .int 0, .int 0, .int 0, .int 0, .int 0, .int 0, .int 0, .ref q1, .ref q2, .ref q3, .ref q4, .ref q5, .ref q6, .ref q7, .int 0, .int 0, .int (-1 : Int32), .int 0, .int (-1 : Int32), .int 0, .ref q8, .ref q9, .int 0, .int 0, .int 0, .int 0, .int 0, .int 0, .int 0, .long 0, .int 0, .int (-1 : Int32), .int 0, .int 0, .int 0, .int 0, .ref q10, .null, .null, .int 0]))] ++ [(q1, .inl (k.2.1.1 1, 8, .inr (.inl (fun _ => 0))))] ++ [(q2, .inl (k.2.1.1 0, 1846, .inl (fun _ => 0)))] ++ [(q3, .inl (k.2.1.1 0, 1846, .inl (fun _ => 0)))] ++ [(q4, .inl (k.2.1.1 0, 1846, .inl (fun _ => 0)))] ++ [(q5, .inl (k.2.1.1 0, 1846, .inl (fun _ => 0)))] ++ [(q6, .inl (k.2.1.1 0, 1846, .inl (fun _ => 0)))] ++ [(q7, .inl (k.2.1.1 0, 14768, .inl (fun _ => 0)))] ++ [(q8, .inl (k.2.1.1 0, 60, .inl (fun _ => 0)))] ++ [(q9, .inl (k.2.1.1 2, 600, .inl (fun _ => 0)))] ++ [(q10, .inl (k.2.1.1 0, 5, .inl (fun _ => 0)))] ++ [(q11, .inl (k.2.1.1 1, 8, .inr (.inl (fun _ => 0))))]) H _ := hW
  refine pf_X9_52 (ws2 := [(a0, .inr (7, [.int 0, .int 0, .int 0, .int 0, .int 0, .int 0, .int 0, .int 0, .ref q1, .ref q2, .ref q3, .ref q4, .ref q5, .ref q6, .ref q7, .int 0, .int 0, .int (-1 : Int32), .int 0, .int (-1 : Int32), .int 0, .ref q8, .ref q9, .int 0, .int 0, .int 0, .int 0, .int 0, .int 0, .int 0, .long 0, .int 0, .int (-1 : Int32), .int 0, .int 0, .int 0, .int 0, .ref q10, .ref q11, .null, .int 0]))] ++ [(q1, .inl (k.2.1.1 1, 8, .inr (.inl (fun _ => 0))))] ++ [(q2, .inl (k.2.1.1 0, 1846, .inl (fun _ => 0)))] ++ [(q3, .inl (k.2.1.1 0, 1846, .inl (fun _ => 0)))] ++ [(q4, .inl (k.2.1.1 0, 1846, .inl (fun _ => 0)))] ++ [(q5, .inl (k.2.1.1 0, 1846, .inl (fun _ => 0)))] ++ [(q6, .inl (k.2.1.1 0, 1846, .inl (fun _ => 0)))] ++ [(q7, .inl (k.2.1.1 0, 14768, .inl (fun _ => 0)))] ++ [(q8, .inl (k.2.1.1 0, 60, .inl (fun _ => 0)))] ++ [(q9, .inl (k.2.1.1 2, 600, .inl (fun _ => 0)))] ++ [(q10, .inl (k.2.1.1 0, 5, .inl (fun _ => 0)))] ++ [(q11, .inl (k.2.1.1 1, 8, .inr (.inl (fun _ => 0))))]) E hW 0 rfl hnm rfl rfl (Nat.le_of_ble_eq_true rfl) dX9_init_110 rfl (fun H locs hW => ?_)
  refine k_aload_n E hl 0 dX9_init_113 rfl ?_
  refine lv_sipush (v := (1000 : Int32)) E.hx E.hb dX9_init_114 sp_1000 ?_
  refine k_newB (N := 1000) E hW hA (by decide) (by decide) (by decide) (by decide) (by decide) dX9_init_117 (fun q12 H hW => ?_)
  have hW : WD k A s.heap ([(a0, .inr (7, [.int 0, .int 0, .int 0, .int 0, .int 0, .int 0, .int 0, .int 0, .ref q1, .ref q2, .ref q3, .ref q4, .ref q5, .ref q6, .ref q7, .int 0, .int 0, .int (-1 : Int32), .int 0, .int (-1 : Int32), .int 0, .ref q8, .ref q9, .int 0, .int 0, .int 0, .int 0, .int 0, .int 0, .int 0, .long 0, .int 0, .int (-1 : Int32), .int 0, .int 0, .int 0, .int 0, .ref q10, .ref q11, .null, .int 0]))] ++ [(q1, .inl (k.2.1.1 1, 8, .inr (.inl (fun _ => 0))))] ++ [(q2, .inl (k.2.1.1 0, 1846, .inl (fun _ => 0)))] ++ [(q3, .inl (k.2.1.1 0, 1846, .inl (fun _ => 0)))] ++ [(q4, .inl (k.2.1.1 0, 1846, .inl (fun _ => 0)))] ++ [(q5, .inl (k.2.1.1 0, 1846, .inl (fun _ => 0)))] ++ [(q6, .inl (k.2.1.1 0, 1846, .inl (fun _ => 0)))] ++ [(q7, .inl (k.2.1.1 0, 14768, .inl (fun _ => 0)))] ++ [(q8, .inl (k.2.1.1 0, 60, .inl (fun _ => 0)))] ++ [(q9, .inl (k.2.1.1 2, 600, .inl (fun _ => 0)))] ++ [(q10, .inl (k.2.1.1 0, 5, .inl (fun _ => 0)))] ++ [(q11, .inl (k.2.1.1 1, 8, .inr (.inl (fun _ => 0))))] ++ [(q12, .inl (k.2.1.1 2, 1000, .inl (fun _ => 0)))]) H _ := hW
  refine pf_X9_55 (ws2 := [(a0, .inr (7, [.int 0, .int 0, .int 0, .int 0, .int 0, .int 0, .int 0, .int 0, .ref q1, .ref q2, .ref q3, .ref q4, .ref q5, .ref q6, .ref q7, .int 0, .int 0, .int (-1 : Int32), .int 0, .int (-1 : Int32), .int 0, .ref q8, .ref q9, .int 0, .int 0, .int 0, .int 0, .int 0, .int 0, .int 0, .long 0, .int 0, .int (-1 : Int32), .int 0, .int 0, .int 0, .int 0, .ref q10, .ref q11, .ref q12, .int 0]))] ++ [(q1, .inl (k.2.1.1 1, 8, .inr (.inl (fun _ => 0))))] ++ [(q2, .inl (k.2.1.1 0, 1846, .inl (fun _ => 0)))] ++ [(q3, .inl (k.2.1.1 0, 1846, .inl (fun _ => 0)))] ++ [(q4, .inl (k.2.1.1 0, 1846, .inl (fun _ => 0)))] ++ [(q5, .inl (k.2.1.1 0, 1846, .inl (fun _ => 0)))] ++ [(q6, .inl (k.2.1.1 0, 1846, .inl (fun _ => 0)))] ++ [(q7, .inl (k.2.1.1 0, 14768, .inl (fun _ => 0)))] ++ [(q8, .inl (k.2.1.1 0, 60, .inl (fun _ => 0)))] ++ [(q9, .inl (k.2.1.1 2, 600, .inl (fun _ => 0)))] ++ [(q10, .inl (k.2.1.1 0, 5, .inl (fun _ => 0)))] ++ [(q11, .inl (k.2.1.1 1, 8, .inr (.inl (fun _ => 0))))] ++ [(q12, .inl (k.2.1.1 2, 1000, .inl (fun _ => 0)))]) E hW 0 rfl hnm rfl rfl (Nat.le_of_ble_eq_true rfl) dX9_init_119 rfl (fun H locs hW => ?_)
  refine k_aload_n E hl 0 dX9_init_122 rfl ?_
  have hW : WD k A s.heap (wModel k (adr a0 (lst [q1, q2, q3, q4, q5, q6, q7, q8, q9, q10, q11, q12])) zMo) H _ := hW
  obtain ⟨m123, hg, hf⟩ := ob hf
  refine k_callVv (As := []) (rest := []) (ws2 := fun u => wModel k (adr a0 (lst [q1, q2, q3, q4, q5, q6, q7, q8, q9, q10, q11, q12])) u) (c_X9_clears n l k (adr a0 (lst [q1, q2, q3, q4, q5, q6, q7, q8, q9, q10, q11, q12])) zMo m123 hg) E vl_X9_58 dX9_init_123 rfl [0, 1, 2, 3, 4, 5, 6, 7, 8, 9, 10, 11, 12] 7 0 hW hA hl rfl rfl rfl rfl ⟨by decide, by decide⟩ ⟨by decide, by decide⟩ (Nat.le_of_ble_eq_true rfl) rfl (fun _ => rfl) (fun _ => rfl) (fun u H locs hp hW => ?_)
  cases hp
  refine k_aload_n E hl 0 dX9_init_126 rfl ?_
  refine lv_iconst (v := (4 : Int32)) E.hx E.hb dX9_init_127 ic_4 ?_
  refine pf_X9_61 (ws2 := wModel k (adr a0 (lst [q1, q2, q3, q4, q5, q6, q7, q8, q9, q10, q11, q12])) (sI m123 33 (4 : Int32))) E hW 0 rfl rfl rfl (Nat.le_of_ble_eq_true rfl) dX9_init_128 rfl (fun H locs hW => ?_)
  refine k_aload_n E hl 0 dX9_init_131 rfl ?_
  obtain ⟨m132, hg, hf⟩ := ob hf
  refine k_callVv (As := []) (rest := []) (ws2 := fun u => wModel k (adr a0 (lst [q1, q2, q3, q4, q5, q6, q7, q8, q9, q10, q11, q12])) u) (c_X9_takesDraft n l k (adr a0 (lst [q1, q2, q3, q4, q5, q6, q7, q8, q9, q10, q11, q12])) (sI m123 33 (4 : Int32)) m132 hg) E vl_X9_64 dX9_init_132 rfl [0, 1, 2, 3, 4, 5, 6, 7, 8, 9, 10, 11, 12] 7 0 hW hA hl rfl rfl rfl rfl ⟨by decide, by decide⟩ ⟨by decide, by decide⟩ (Nat.le_of_ble_eq_true rfl) rfl (fun _ => rfl) (fun _ => rfl) (fun u H locs hp hW => ?_)
  cases hp
  exact hret (lst [q1, q2, q3, q4, q5, q6, q7, q8, q9, q10, q11, q12]) _ _ _ _ _ _ (by cases hf; exact hW) trivial (by decide) (by decide) dX9_init_135
