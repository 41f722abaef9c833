/-! calls over a world X ++ tail: the callee takes the tail whole and gives another back -/
section KTL
variable {p : Program} {l : Launch} {e : Env} {R : Room} {s : State} {m : MethodId} {args : Array Value} {below : List Frame} {meth : Method} {c : Code} {H : Heap} {locs : List Loc} {cells slots : Nat} {Q : State → Prop}
variable {cc : ByteArray} {pc nL : Nat} {ls : Array Slot} {rest : List Value} {k : KT} {A : Nat → Prop} {X tail : va_W} {own : String} {a : Nat}
theorem k_preT (E : E0 p s m c cc nL own k A) (hW : WD k A s.heap (X ++ tail) H locs) (hA : ∀ q : Nat, s.heap.size ≤ q → A q) : (∀ q, va_A tail H.size q → A q) ∧ ∀ U : State, U.heap = H → s.WarmedH U.vm → Bpre k tail H.size U := pre_callG (cx := []) E hW hA [] rfl rfl
theorem k_finv {S : Type} {tail1 : S → va_W} {post : S → Prop} {mc ms : Nat} {a9 : Array Value} {st0 : List Value} (hr : va_Run p l e R s m args below meth c H locs cells slots mc ms (F0 m pc ls st0) rest (Qv k tail1 post (va_A tail H.size) a9) (va_A tail H.size)) (E : E0 p s m c cc nL own k A) (hW : WD k A s.heap (X ++ tail) H locs) (hA : ∀ q : Nat, s.heap.size ≤ q → A q)
    (q : ∀ (u : S) (H1 : Heap) (locs1 : List Loc), post u → WD k A s.heap (X ++ tail1 u) H1 locs1 → W p l e R s m args below meth c H1 locs1 (cells + mc) (slots + ms) Q (F0 m (pc + 3) ls rest)) : W p l e R s m args below meth c H locs cells slots Q (F0 m pc ls st0) := by
  obtain ⟨hfree, -⟩ := k_preT E hW hA
  refine va_callv hr hW.2.2 (fun q _ h => hfree q h) hfree (fun u t H1 locs1 ht hvm hp hB hz hk hS => ?_)
  obtain ⟨hP1, hD1⟩ := hB
  rw [ht] at hP1
  obtain ⟨g1, g2⟩ := call_frameG (cx := []) (cx1 := []) hW.1 hW.2.1 [] rfl rfl hfree hk hP1 hD1
  exact q u H1 locs1 hp ⟨g1, g2, hS⟩
theorem k_fini {S : Type} {tail1 : S → va_W} {post : Int32 → S → Prop} {mc ms : Nat} {a9 : Array Value} {st0 : List Value} (hr : va_Run p l e R s m args below meth c H locs cells slots mc ms (F0 m pc ls st0) rest (Qi k tail1 post (va_A tail H.size) a9) (va_A tail H.size)) (E : E0 p s m c cc nL own k A) (hW : WD k A s.heap (X ++ tail) H locs) (hA : ∀ q : Nat, s.heap.size ≤ q → A q)
    (q : ∀ (r : Int32) (u : S) (H1 : Heap) (locs1 : List Loc), post r u → WD k A s.heap (X ++ tail1 u) H1 locs1 → W p l e R s m args below meth c H1 locs1 (cells + mc) (slots + ms) Q (F0 m (pc + 3) ls (.int r :: rest))) : W p l e R s m args below meth c H locs cells slots Q (F0 m pc ls st0) := by
  obtain ⟨hfree, -⟩ := k_preT E hW hA
  refine va_calli hr hW.2.2 (fun q _ h => hfree q h) hfree (fun r u t H1 locs1 ht hvm hp hB hz hk hS => ?_)
  obtain ⟨hP1, hD1⟩ := hB
  rw [ht] at hP1
  obtain ⟨g1, g2⟩ := call_frameG (cx := []) (cx1 := []) hW.1 hW.2.1 [] rfl rfl hfree hk hP1 hD1
  exact q r u H1 locs1 hp ⟨g1, g2, hS⟩
theorem k_finw {S : Type} {tail1 : S → va_W} {post : Nat → S → Prop} {mc ms : Nat} {a9 : Array Value} {st0 : List Value} (hr : va_Run p l e R s m args below meth c H locs cells slots mc ms (F0 m pc ls st0) rest (Qw k tail1 post (va_A tail H.size) a9) (va_A tail H.size)) (E : E0 p s m c cc nL own k A) (hW : WD k A s.heap (X ++ tail) H locs) (hA : ∀ q : Nat, s.heap.size ≤ q → A q)
    (q : ∀ (r : Nat) (u : S) (H1 : Heap) (locs1 : List Loc), post r u → WD k A s.heap (X ++ tail1 u) H1 locs1 → W p l e R s m args below meth c H1 locs1 (cells + mc) (slots + ms) Q (F0 m (pc + 3) ls (.ref r :: rest))) : W p l e R s m args below meth c H locs cells slots Q (F0 m pc ls st0) := by
  obtain ⟨hfree, -⟩ := k_preT E hW hA
  refine va_callq hr hW.2.2 (fun q _ h => hfree q h) hfree (fun r u t H1 locs1 ht hvm hp hB hz hk hS => ?_)
  obtain ⟨r1, rfl, hp⟩ := hp
  obtain ⟨hP1, hD1⟩ := hB
  rw [ht] at hP1
  obtain ⟨g1, g2⟩ := call_frameG (cx := []) (cx1 := []) hW.1 hW.2.1 [] rfl rfl hfree hk hP1 hD1
  exact q r1 u H1 locs1 hp ⟨g1, g2, hS⟩
/-- a world's part -/
theorem WD.sub {H0 : Heap} {ws ws' : va_W} (hW : WD k A H0 ws H locs) (is : List Nat) (hn : va_nd is = true) (h1 : is.filterMap (fun i => ws[i]?) = ws') (h2 : is.map (fun i => ws[i]?) = ws'.map some) : WD k A H0 ws' H locs := ⟨hW.1.sub is h1, hW.2.1.sub is hn h2, hW.2.2⟩
/-- a private method of a class is the one that runs, whatever the receiver's class C, once C selects some method of that class -/
theorem sb_selP {y z : MethodName} {C : String} (hy : y.cls ≠ "java/lang/invoke/MethodHandle" ∧ y.cls ≠ "java/lang/invoke/VarHandle") (hz : z.cls = y.cls) (hsel2 : (Cond.selects C z z).before args s = true) (hpriv : (Cond.privateMethod y).before args s = true) (hinst : (Cond.instanceMethod y).before args s = true) : (Cond.selects C y y).before args s = true := by
  obtain ⟨c2, r2, m2, q1, q2, q3, q4, kP, hkP, hkPi⟩ := Cond.selects_spec hsel2
  obtain ⟨mk, methM, hnamed, hmethM, -, -⟩ := Cond.instanceMethod_spec hinst
  have hfound : s.methodFound? y.cls y.name y.desc = some mk := State.methodFound?_of_named hnamed hy
  have hcls : mk.cls = m2.cls := Option.some.inj ((findClass_of_methodNamed hnamed).symm.trans (hz ▸ findClass_of_methodNamed q3))
  have hsel : selectMethod {} s.vm c2 mk = .method mk := selectMethod_private hmethM (Cond.privateMethod_at hpriv mk methM hnamed hmethM)
  simp only [Cond.before, Cond.holds, Cond.value, q1, hfound, hnamed, hsel, hcls, hkP]
  simp [hkPi]
def JVP (own : String) (index : Nat) (y : MethodName) (bytes : ByteArray) (mx : Nat) (ret : Option FieldType) (n : Nat) : Prop :=
  (Cond.methodLink own index y ∈ lw_tbl ∧ Cond.instanceMethod y ∈ lw_tbl ∧ y ∈ sbPriv ∧ Cond.initialized y.cls ∈ lw_tbl ∧ Cond.code y bytes mx ret ∈ lw_tbl) ∧ y.cls ≠ "java/lang/invoke/MethodHandle" ∧ y.cls ≠ "java/lang/invoke/VarHandle" ∧ (parseMethodDescriptor y.desc).map (fun d => d.parameters.length) = some n
theorem JVP.cw {index mx n fr mc ms loc : Nat} {y : MethodName} {bytes : ByteArray} {ret : Option FieldType} (h : JVP own index y bytes mx ret n) (hE : EH k) (E : E0 p s m c cc nL own k A) (hR : fr + 1 ≤ R.frames ∧ 8 + (mx + 11) + loc ≤ R.locals) :
    CallW R s args own RJ4 index y bytes mx ret [Cond.code y bytes mx ret] { frames := fr, cells := mc, slots := ms, locals := loc } mc ms n := by
  obtain ⟨⟨h1, h2, h3, h5, h6⟩, hd⟩ := h
  exact ⟨callB_of (Ts := lw_tbl.filter tbOK) n E.fix.2.2.2.2 (fun w hw => by rw [List.mem_singleton.mp hw]; exact ⟨List.mem_filter.mpr ⟨h6, rfl⟩, Or.inl rfl⟩) rfl rfl rfl (E.w h5 rfl) (E.w h1 rfl) hd hR, E.w h2 rfl, hE.2 _ _ _ E.sf y h3 args⟩
def JVI (own C : String) (index : Nat) (y : MethodName) (bytes : ByteArray) (mx : Nat) (ret : Option FieldType) (n : Nat) : Prop :=
  (Cond.methodLink own index y ∈ lw_tbl ∧ Cond.instanceMethod y ∈ lw_tbl ∧ Cond.selects C y y ∈ lw_tbl ∧ Cond.initialized y.cls ∈ lw_tbl ∧ Cond.code y bytes mx ret ∈ lw_tbl) ∧ y.cls ≠ "java/lang/invoke/MethodHandle" ∧ y.cls ≠ "java/lang/invoke/VarHandle" ∧ (parseMethodDescriptor y.desc).map (fun d => d.parameters.length) = some n
theorem JVI.cw {C : String} {index mx n fr mc ms loc : Nat} {y : MethodName} {bytes : ByteArray} {ret : Option FieldType} (h : JVI own C index y bytes mx ret n) (E : E0 p s m c cc nL own k A) (hR : fr + 1 ≤ R.frames ∧ 8 + (mx + 11) + loc ≤ R.locals) :
    CallW R s args own C index y bytes mx ret [Cond.code y bytes mx ret] { frames := fr, cells := mc, slots := ms, locals := loc } mc ms n := by
  obtain ⟨⟨h1, h2, h3, h5, h6⟩, hd⟩ := h
  exact ⟨callB_of (Ts := lw_tbl.filter tbOK) n E.fix.2.2.2.2 (fun w hw => by rw [List.mem_singleton.mp hw]; exact ⟨List.mem_filter.mpr ⟨h6, rfl⟩, Or.inl rfl⟩) rfl rfl rfl (E.w h5 rfl) (E.w h1 rfl) hd hR, E.w h2 rfl, E.w h3 rfl⟩
/-- super.m(..) -/
def JSU (own : String) (index : Nat) (y : MethodName) (bytes : ByteArray) (mx : Nat) (ret : Option FieldType) (n : Nat) : Prop := (∀ w ∈ va_wsSU own index y [Cond.code y bytes mx ret], w ∈ lw_tbl ∧ tbOK w = true ∧ goodWord w = true) ∧ y.name ≠ "<init>" ∧ (parseMethodDescriptor y.desc).map (fun d => d.parameters.length) = some n
theorem JSU.cw {index mx n fr mc ms loc : Nat} {y : MethodName} {bytes : ByteArray} {ret : Option FieldType} (h : JSU own index y bytes mx ret n) (E : E0 p s m c cc nL own k A) (hR : fr + 1 ≤ R.frames ∧ 8 + (mx + 11) + loc ≤ R.locals) :
    va_CS R s args own index y bytes mx ret [Cond.code y bytes mx ret] { frames := fr, cells := mc, slots := ms, locals := loc } mc ms n :=
  va_cwSU n E.fix.2.2.2.2 (fun w hw => ⟨List.mem_filter.mpr ⟨(h.1 w hw).1, (h.1 w hw).2.1⟩, good_of_word (h.1 w hw).2.2⟩) rfl rfl rfl h.2 hR
/-- an overriding method y of C runs where x is named -/
def JVO (own C : String) (index : Nat) (x y : MethodName) (bytes : ByteArray) (mx : Nat) (ret : Option FieldType) (b0 : ByteArray) (m0 : Nat) (r0 : Option FieldType) (n : Nat) : Prop := (∀ w ∈ va_wsO own index C x.cls x y [Cond.code y bytes mx ret], w ∈ lw_tbl ∧ tbOK w = true ∧ goodWord w = true) ∧ Cond.code x b0 m0 r0 ∈ lw_tbl ∧ x.cls ≠ "java/lang/invoke/MethodHandle" ∧ x.cls ≠ "java/lang/invoke/VarHandle" ∧ (parseMethodDescriptor x.desc).map (fun d => d.parameters.length) = some n
theorem JVO.cw {C : String} {index mx n fr mc ms loc m0 : Nat} {x y : MethodName} {bytes b0 : ByteArray} {ret r0 : Option FieldType} (h : JVO own C index x y bytes mx ret b0 m0 r0 n) (E : E0 p s m c cc nL own k A) (hR : fr + 1 ≤ R.frames ∧ 8 + (mx + 11) + loc ≤ R.locals) :
    va_CU R s args own C x.cls index x y bytes mx ret [Cond.code y bytes mx ret] { frames := fr, cells := mc, slots := ms, locals := loc } mc ms n :=
  va_cwO n E.fix.2.2.2.2 (fun w hw => ⟨List.mem_filter.mpr ⟨(h.1 w hw).1, (h.1 w hw).2.1⟩, good_of_word (h.1 w hw).2.2⟩) rfl rfl rfl (List.mem_filter.mpr ⟨h.2.1, rfl⟩) h.2.2 hR
theorem k_rV {C : String} {index mx n fr mc ms loc : Nat} {y : MethodName} {bytes : ByteArray} {ret : Option FieldType} {Qc : (Nat → Prop) → Array Value → State → Outcome → State → Prop} {As : List Value} {lv : List (Nat × Value)}
    (hM : CG l k y bytes mx ret fr mc ms loc (.ref a :: As) tail Qc) (E : E0 p s m c cc nL own k A) (cw : CallW R s args own C index y bytes mx ret [Cond.code y bytes mx ret] { frames := fr, cells := mc, slots := ms, locals := loc } mc ms n) (hdg : decode cc pc = .ok (.invokevirtual index, 3)) (hrec : ∃ cell : Cell, H[a]? = some cell ∧ cell.vm.isStatics = false ∧ s.vm.findClass C = some cell.cls)
    (hW : WD k A s.heap (X ++ tail) H locs) (hA : ∀ q : Nat, s.heap.size ≤ q → A q) (hl : lv_has ls nL lv) (hn : As.length = n) (hroom : cells + mc ≤ R.cells ∧ slots + ms ≤ R.slots) (hcat : (rest.map fun v => v.category).sum ≤ 8) :
    va_Run p l e R s m args below meth c H locs cells slots mc ms (F0 m pc ls (As.reverse ++ .ref a :: rest)) rest (Qc (va_A tail H.size) (Value.ref a :: As).toArray) (va_A tail H.size) := by
  obtain ⟨hfree, hpre⟩ := k_preT E hW hA
  exact va_runV (As := As) (rest := rest) E.fix (hM H.size) cw ⟨Bpre.blind, hrec, fun U hU hw => ⟨rfl, hpre U hU hw⟩⟩ rfl hn hl.1 rfl (lv_room hcat) hdg hroom
theorem k_rS {index mx n fr mc ms loc : Nat} {y : MethodName} {bytes : ByteArray} {ret : Option FieldType} {Qc : (Nat → Prop) → Array Value → State → Outcome → State → Prop} {As : List Value} {lv : List (Nat × Value)}
    (hM : CG l k y bytes mx ret fr mc ms loc As tail Qc) (E : E0 p s m c cc nL own k A) (hV : SL own index y bytes mx ret n) (hdg : decode cc pc = .ok (.invokestatic index, 3))
    (hW : WD k A s.heap (X ++ tail) H locs) (hA : ∀ q : Nat, s.heap.size ≤ q → A q) (hl : lv_has ls nL lv) (hn : As.length = n) (hR : fr + 1 ≤ R.frames ∧ 8 + (mx + 11) + loc ≤ R.locals) (hroom : cells + mc ≤ R.cells ∧ slots + ms ≤ R.slots) (hcat : (rest.map fun v => v.category).sum ≤ 8) :
    va_Run p l e R s m args below meth c H locs cells slots mc ms (F0 m pc ls (As.reverse ++ rest)) rest (Qc (va_A tail H.size) As.toArray) (va_A tail H.size) := by
  obtain ⟨hfree, hpre⟩ := k_preT E hW hA
  exact va_runS (As := As) (rest := rest) E.fix (hM H.size) (hV.cw E hR) ⟨Bpre.blind, fun U hU hw => ⟨rfl, hpre U hU hw⟩⟩ rfl hn hl.1 rfl (lv_room hcat) hdg hroom
theorem k_rSU {C : String} {cC : ClassId} {index mx n fr mc ms loc : Nat} {y : MethodName} {bytes : ByteArray} {ret : Option FieldType} {Qc : (Nat → Prop) → Array Value → State → Outcome → State → Prop} {As : List Value} {lv : List (Nat × Value)} (hat : ClassAt s C cC)
    (hM : CG l k y bytes mx ret fr mc ms loc (.ref a :: As) tail Qc) (E : E0 p s m c cc nL own k A) (cw : va_CS R s args own index y bytes mx ret [Cond.code y bytes mx ret] { frames := fr, cells := mc, slots := ms, locals := loc } mc ms n) (hdg : decode cc pc = .ok (.invokespecial index, 3)) (hrec : ∃ cell : Cell, H[a]? = some cell ∧ cell.vm.isStatics = false ∧ s.vm.findClass C = some cell.cls)
    (hW : WD k A s.heap (X ++ tail) H locs) (hA : ∀ q : Nat, s.heap.size ≤ q → A q) (hl : lv_has ls nL lv) (hn : As.length = n) (hroom : cells + mc ≤ R.cells ∧ slots + ms ≤ R.slots) (hcat : (rest.map fun v => v.category).sum ≤ 8) :
    va_Run p l e R s m args below meth c H locs cells slots mc ms (F0 m pc ls (As.reverse ++ .ref a :: rest)) rest (Qc (va_A tail H.size) (Value.ref a :: As).toArray) (va_A tail H.size) := by
  obtain ⟨hfree, hpre⟩ := k_preT E hW hA
  exact va_runSU (As := As) (rest := rest) hat E.fix (hM H.size) cw ⟨Bpre.blind, hrec, fun U hU hw => ⟨rfl, hpre U hU hw⟩⟩ rfl hn hl.1 rfl (lv_room hcat) hdg hroom
theorem k_rO {C : String} {index mx n fr mc ms loc : Nat} {x y : MethodName} {bytes : ByteArray} {ret : Option FieldType} {Qc : (Nat → Prop) → Array Value → State → Outcome → State → Prop} {As : List Value} {lv : List (Nat × Value)}
    (hM : CG l k y bytes mx ret fr mc ms loc (.ref a :: As) tail Qc) (E : E0 p s m c cc nL own k A) (cw : va_CU R s args own C x.cls index x y bytes mx ret [Cond.code y bytes mx ret] { frames := fr, cells := mc, slots := ms, locals := loc } mc ms n) (hdg : decode cc pc = .ok (.invokevirtual index, 3)) (hrec : ∃ cell : Cell, H[a]? = some cell ∧ cell.vm.isStatics = false ∧ s.vm.findClass C = some cell.cls)
    (hW : WD k A s.heap (X ++ tail) H locs) (hA : ∀ q : Nat, s.heap.size ≤ q → A q) (hl : lv_has ls nL lv) (hn : As.length = n) (hroom : cells + mc ≤ R.cells ∧ slots + ms ≤ R.slots) (hcat : (rest.map fun v => v.category).sum ≤ 8) :
    va_Run p l e R s m args below meth c H locs cells slots mc ms (F0 m pc ls (As.reverse ++ .ref a :: rest)) rest (Qc (va_A tail H.size) (Value.ref a :: As).toArray) (va_A tail H.size) := by
  obtain ⟨hfree, hpre⟩ := k_preT E hW hA
  exact va_runU (As := As) (rest := rest) E.fix (hM H.size) cw ⟨Bpre.blind, hrec, fun U hU hw => ⟨rfl, hpre U hU hw⟩⟩ rfl hn hl.1 rfl (lv_room hcat) hdg hroom
theorem k_rI {index mx n fr mc ms loc : Nat} {y : MethodName} {bytes : ByteArray} {Qc : (Nat → Prop) → Array Value → State → Outcome → State → Prop} {As : List Value} {lv : List (Nat × Value)}
    (hM : CG l k y bytes mx none fr mc ms loc (.ref a :: As) tail Qc) (E : E0 p s m c cc nL own k A) (hV : IL own index y bytes mx n) (hdg : decode cc pc = .ok (.invokespecial index, 3))
    (hW : WD k A s.heap (X ++ tail) H locs) (hA : ∀ q : Nat, s.heap.size ≤ q → A q) (hl : lv_has ls nL lv) (hn : As.length = n) (hR : fr + 1 ≤ R.frames ∧ 8 + (mx + 11) + loc ≤ R.locals) (hroom : cells + mc ≤ R.cells ∧ slots + ms ≤ R.slots) (hcat : (rest.map fun v => v.category).sum ≤ 8) :
    va_Run p l e R s m args below meth c H locs cells slots mc ms (F0 m pc ls (As.reverse ++ .ref a :: rest)) rest (Qc (va_A tail H.size) (Value.ref a :: As).toArray) (va_A tail H.size) := by
  obtain ⟨hfree, hpre⟩ := k_preT E hW hA
  exact va_runI (As := As) (rest := rest) E.fix (hM H.size) (hV.cw E hR) ⟨Bpre.blind, fun U hU hw => ⟨rfl, hpre U hU hw⟩⟩ rfl hn hl.1 rfl (lv_room hcat) hdg hroom
end KTL
theorem CG.ofQ {l : Launch} {k : KT} {y : MethodName} {cc : ByteArray} {mx fr mc ms loc : Nat} {n : FieldType} {av : List Value} {W0 : va_W} {S : Type} {W1 : S → va_W} {post : Nat → S → Prop} (hy : plainName y.cls = true) (hlen : (lg_sl av).length ≤ mx)
    (body : ∀ (p : Program) (e : Env) (s : State) (m : MethodId) (args : Array Value) (below : List Frame) (meth : Method) (c : Code) (A : Nat → Prop) (Q : State → Prop), E0 p s m c cc mx y.cls k A → meth.name = y.name → WD k A s.heap W0 s.heap [] → (∀ q : Nat, s.heap.size ≤ q → A q) →
      (∀ (v : Nat) (u : S) (H : Heap) (locs : List Loc) (cells slots pc : Nat) (ls : Array Slot), WD k A s.heap (W1 u) H locs → post v u → cells ≤ mc → slots ≤ ms → decode cc pc = .ok (.areturn, 1) → W p l e { frames := fr, cells := mc, slots := ms, locals := loc } s m args below meth c H locs cells slots Q (F0 m pc ls [.ref v])) →
      ∀ ls : Array Slot, lv_has ls mx (lv_args 0 av) → W p l e { frames := fr, cells := mc, slots := ms, locals := loc } s m args below meth c s.heap [] 0 0 Q (F0 m 0 ls [])) : CG l k y cc mx (some (.array n)) fr mc ms loc av W0 (Qw k W1 post) :=
  CG.of hy hlen (fun p e s m args below meth c A E hr hlk hnm hW hA ls hl => body p e s m args below meth c A _ E hnm hW hA (fun v u H locs cells slots pc ls hW hp h1 h2 hdg =>
    W.widen h1 h2 (W.aret E.hx E.hb hr (Or.inr ⟨_, rfl⟩) (Or.inr ⟨v, rfl⟩) (fun t ht hw => ⟨⟨some v, u, rfl, ⟨v, rfl, hp⟩, by rw [ht]; exact hW.1, hW.2.1⟩, hW.2.2.F ht⟩) hW.2.2.2.2 hdg hlk)) ls hl)
theorem WD.comm {k : KT} {A : Nat → Prop} {H0 H : Heap} {locs : List Loc} {a b : va_W} (h : WD k A H0 (a ++ b) H locs) : WD k A H0 (b ++ a) H locs := ⟨va_P.swap (a := []) h.1, va_D.swap (a := []) h.2.1, h.2.2⟩
