/-! methods that return or throw: contracts CX, their ends, calls, throws; calls that make the world grow -/
def xName : Nat → String
  | 0 => ""
  | 1 => "java/lang/IndexOutOfBoundsException"
  | 2 => "java/lang/IllegalArgumentException"
  | 3 => "java/lang/IllegalStateException"
  | _ => "java/util/NoSuchElementException"
def xTexts : List (Nat × String) := [(181, "no such property of a process"), (189, "no such property of a loan"), (198, "no such page"), (208, "no such page of the loan"), (220, "no such property of a claim"), (229, "not so many claims wait"), (236, "no such property of a fine"), (280, "the time would be too great"), (290, "pages or term out of range"), (292, "there are no more claims"), (301, "the claim does not wait"), (307, "the loan has not so many pages"), (313, "ticks out of range"), (318, "the promise cannot be renewed"), (326, "the fine cannot be appealed any more"), (331, "no such order"), (333, "there is nothing to undo"), (353, "no such number of a process"), (377, "no state is saved"), (379, "no such process"), (381, "no such loan"), (383, "no such claim"), (388, "no such fine is known")]
def XSF (A : Nat → Prop) (U : State) (H : Heap) : Prop := vx_Zq Bundle.tN "UNASSIGNED_STACK" Bundle.steD A U H ∧ vx_Zq Bundle.tN "SUPPRESSED_SENTINEL" Bundle.listD A U H ∧ ∀ q ∈ xTexts, ∃ sa : Nat, vk_R RX8 q.1 q.2 sa U
def XH (l : Launch) (k : KT) : Prop := l.stackTraces = false ∧ ∀ (A : Nat → Prop) (U : State) (H : Heap), k.2.2 A U H → XSF A U H
def xNames : List String := ["java/lang/RuntimeException", "java/lang/Exception"]
def XR (ik ic : Nat) (cls : String) : Prop := (Bundle.fit cls = true ∧ ∀ n ∈ xNames, Bundle.fit n = true) ∧ Cond.classLink RX8 ik cls ∈ lw_tbl ∧ Cond.initialized cls ∈ lw_tbl ∧ (∀ w ∈ vx_atS RX8 ic cls xNames, w ∈ lw_tbl) ∧ (∀ w ∈ Cond.classLink RX8 ik cls :: Cond.initialized cls :: vx_atS RX8 ic cls xNames, tbOK w = true ∧ vx_ot w = true)
abbrev Xq {S : Type} (k : KT) (W1 : S → va_W) (px : Nat → S → Prop) : (Nat → Prop) → String → State → State → Prop := fun A => vx_X (S := Nat × S) (fun u => px u.1 u.2) (fun E u t => E = xName u.1 ∧ Bpost k A (W1 u.2) t) A
def CX (l : Launch) (k : KT) (y : MethodName) (cc : ByteArray) (mx : Nat) (ret : Option FieldType) (fr mc ms loc : Nat) (av : List Value) (W0 : va_W) (Qc : (Nat → Prop) → Array Value → State → Outcome → State → Prop) (XC : (Nat → Prop) → String → State → State → Prop) : Prop :=
  ∀ sz : Nat, vx_Met l y [Cond.code y cc mx ret] { frames := fr, cells := mc, slots := ms, locals := loc } (va_Pc av (Bpre k W0 sz)) (Qc (va_A W0 sz)) (XC (va_A W0 sz)) mc ms (va_A W0 sz)
theorem CX.of {l : Launch} {k : KT} {y : MethodName} {cc : ByteArray} {mx fr mc ms loc : Nat} {ret : Option FieldType} {av : List Value} {W0 : va_W} {Qc : (Nat → Prop) → Array Value → State → Outcome → State → Prop} {XC : (Nat → Prop) → String → State → State → Prop} (hy : plainName y.cls = true) (hlen : (lg_sl av).length ≤ mx)
    (body : ∀ (p : Program) (e : Env) (s : State) (m : MethodId) (args : Array Value) (below : List Frame) (meth : Method) (c : Code) (A : Nat → Prop), E0 p s m c cc mx y.cls k A → meth.sig.returnType = ret → meth.locks = false → meth.name = y.name → (∀ x ∈ c.exceptionTable.toList, False) → WD k A s.heap W0 s.heap [] → (∀ q : Nat, s.heap.size ≤ q → A q) → ∀ ls : Array Slot, lv_has ls mx (lv_args 0 av) →
      W p l e { frames := fr, cells := mc, slots := ms, locals := loc } s m args below meth c s.heap [] 0 0 (vx_MQ below (Qc A) (XC A) args s mc ms A) (F0 m 0 ls [])) : CX l k y cc mx ret fr mc ms loc av W0 Qc XC := by
  intro sz
  refine vx_ofW (cc := cc) (maxL := mx) (ret := ret) hy rfl ?_
  intro p e s m args below meth c s₁ B hml ht hv
  obtain ⟨rfl, hsz, hP, hK, hT, hok, hSF, hD0⟩ := hv
  subst hsz
  have hnm : meth.name = y.name := (name_of_methodNamed B.named B.method).1
  rw [lg_entry_eq]
  exact body p e s m _ below meth c _ ⟨B.exec, B.bytes, hml, findClass_of_methodNamed B.named, hT, hK, hok, hSF⟩ B.returns B.notSynchronized hnm ht ⟨hP, hD0.self, va_S.rf⟩ (fun q h => Or.inr h) _ (lv_entry av hlen)
def XD (cc : ByteArray) (pc ik is ic : Nat) : Prop := decode cc pc = .ok (.new ik, 3) ∧ decode cc (pc + 3) = .ok (.dup, 1) ∧ ((decode cc (pc + 4) = .ok (.ldc is, 2) ∧ decode cc (pc + 6) = .ok (.invokespecial ic, 3) ∧ decode cc (pc + 9) = .ok (.athrow, 1)) ∨ (decode cc (pc + 4) = .ok (.ldc_w is, 3) ∧ decode cc (pc + 7) = .ok (.invokespecial ic, 3) ∧ decode cc (pc + 10) = .ok (.athrow, 1)))
/-! NoSuchElementException: its constructor names its super's by entry 13, not 7: a law of its own, over the library's pieces (ThrowableC.of_atoms, PassC.ofS_atoms, chainS, initColdS, ctorMessageOffV, athrowLeaves) -/
def nsN : String := "java/util/NoSuchElementException"
def nsR : String := "java/lang/RuntimeException"
def nsB : ByteArray := ⟨#[0x2a, 0x2b, 0xb7, 0x00, 0x0d, 0xb1]⟩
def nsAtoms (own : String) (ic : Nat) : List Cond := Bundle.throwableAtoms ++ Bundle.throwableSAtoms ++ Bundle.passSAtoms nsN nsR 13 nsB ++ Bundle.chainSAtoms nsR ["java/lang/Exception"] ++
  [.methodLink own ic (Bundle.initS nsN), .instantiable nsN 6, .castable nsN nsN, .selects nsN Bundle.tFill0 Bundle.tFill0, .selects nsN Bundle.tFill Bundle.tFill, .lays nsN Bundle.tN "cause" "Ljava/lang/Throwable;", .lays nsN Bundle.tN "stackTrace" Bundle.steD, .lays nsN Bundle.tN "suppressedExceptions" Bundle.listD, .lays nsN Bundle.tN "detailMessage" "Ljava/lang/String;",
   .isRef (.static Bundle.tN "UNASSIGNED_STACK" Bundle.steD), .isRef (.static Bundle.tN "SUPPRESSED_SENTINEL" Bundle.listD), .fieldLink Bundle.tN 198 Bundle.tN "backtrace" "Ljava/lang/Object;", .lays Bundle.tN Bundle.tN "backtrace" "Ljava/lang/Object;", .lays nsN Bundle.tN "backtrace" "Ljava/lang/Object;"]
section NSE
variable {p : Program} {l : Launch} {e : Env} {R : Room} {s : State} {m₀ : MethodId} {args : Array Value} {below : List Frame} {meth : Method} {c : Code} {W9 : State} {locs : List Loc} {cells slots : Nat}
set_option maxHeartbeats 2000000 in
theorem ns_ctor (X : Stand p l e R s m₀ args below meth c W9 locs cells slots) (hexec : p.tables.exec = Jvm.exec) (htr : e.platform.stackTraces = false) {own : String} {ic : Nat} (hown : s.vm.findClass own = some m₀.cls) (h : ∀ w ∈ nsAtoms own ic, w.before args s = true) (hlocs : ∀ x ∈ locs, ∀ cell, s.heap[x.base]? = some cell → cell.vm.isStatics = false)
    {a : Addr} {cX : ClassId} {kX : Class} (hfX : s.vm.findClass nsN = some cX) (hkX : s.vm.classes[cX]? = some kX) (hcell : W9.heap[a]? = some (freshCell cX kX)) (hnew : s.heap.size ≤ a) {msg : Value} (hmsg : msg.isRef = true) {g : JFrame} (hg : g.method = m₀) (hsize : g.locals.size = c.maxLocals) (hlocked : g.locked = none) (hentered : g.entered = []) {rest : List Value} (hstack : g.stack = msg :: .ref a :: .ref a :: rest)
    (hd6 : decode c.code g.pc = .ok (.invokespecial ic, 3)) (hd9 : decode c.code (g.pc + 3) = .ok (.athrow, 1)) (hout : ∀ x ∈ c.exceptionTable.toList, covers x (g.pc + 3) = false) (hRf : 5 < R.frames) (hRl : 2 * g.monitorRoom + ((Value.ref a :: rest).map fun v => v.category).sum + 81 ≤ R.locals) (hlocks : meth.locks = false) :
    ∃ U : State, Steps p.tables e below (W9.setTop g) U ∧ U.status = .running ∧ Ended U below (.threw a) ∧ s.WarmedH U.vm ∧ s.sameButNew ({ U with vm := s.vm } : State) locs cells slots ∧ ∃ ce, U.heap[a]? = some ce ∧ s.vm.findClass nsN = some ce.cls ∧ ce.vm = .none := by
  have hpl : e.platform.magicAccessors = ({} : Platform).magicAccessors := by rw [X.admits.platform]
  have w : ∀ x, x ∈ nsAtoms own ic → x.holds args s none s [] = true := fun x hx => h x hx
  obtain ⟨T, Z0, L, -, Y⟩ := ThrowableC.of_atoms (args := args) (by rw [X.admits.platform]) (by rw [X.admits.platform]) hpl (fun x hx => h x (by simp [nsAtoms, hx]))
  obtain ⟨Z, M, LZ, LM, hnZ⟩ := Init0T.ofS_atoms (args := args) hpl L Y (fun x hx => h x (by simp [nsAtoms, hx]))
  obtain ⟨P2, Ps, hlen, L2, hL, hP2, hj, hjs⟩ := Bundle.chainS (args := args) hpl hnZ ["java/lang/Exception"] nsR (by decide +kernel) (by decide +kernel) (fun x hx => h x (by simp [nsAtoms, hx]))
  obtain ⟨P1, L1, hP1, hs1⟩ := PassC.ofS_atoms (args := args) (s := s) hpl (X := nsN) (Y := nsR) (index := 13) (bytes := nsB) (by decide +kernel) (by decide +kernel) (by decide +kernel) (by decide +kernel) (by decide +kernel) (by decide +kernel) (fun x hx => h x (by simp [nsAtoms, hx]))
  have hj1 : P1.sup = P2.m := Option.some.inj (hs1.symm.trans hP2)
  have hfd : s.vm.findClass nsN = some P1.m.cls := findClass_of_methodNamed hP1
  cases Option.some.inj (hfX.symm.trans hfd)
  obtain ⟨c1, kX', hc1, hk, hord, -, -, -⟩ := Cond.instantiable_spec (w (.instantiable nsN 6) (by simp [nsAtoms]))
  cases Option.some.inj (hc1.symm.trans hfd)
  cases Option.some.inj (hkX.symm.trans hk)
  have sel : ∀ (y : MethodName) (f : MethodId), Cond.selects nsN y y ∈ nsAtoms own ic → s.methodNamed? y = some f → s.methodFound? y.cls y.name y.desc = some f → selectMethod e.platform s.vm P1.m.cls f = .method f := by
    intro y f hy hn hf
    obtain ⟨c2, r2, m2, q1, q2, q3, q4, -⟩ := Cond.selects_spec (w _ hy)
    cases Option.some.inj (q1.symm.trans hfd)
    cases Option.some.inj (q2.symm.trans hf)
    cases Option.some.inj (q3.symm.trans hn)
    rw [Launch.admits_selectMethod X.admits]
    exact q4
  have hsel0 := sel Bundle.tFill0 T.fill0 (by simp [nsAtoms]) Y.fill0 (State.methodFound?_of_named Y.fill0 (by decide))
  have hselF := sel Bundle.tFill T.fill (by simp [nsAtoms]) Y.fill (State.methodFound?_of_named Y.fill (by decide))
  obtain ⟨cS0, hS0, hiss⟩ := Y.statics
  obtain ⟨u0, hu0⟩ := Cond.staticRefV Y.unassigned L.unassignedStatic L.statics hS0 hiss (w (.isRef (.static Bundle.tN "UNASSIGNED_STACK" Bundle.steD)) (by simp [nsAtoms]))
  obtain ⟨sen, hsen⟩ := Cond.staticRefV Y.sentinel L.sentinelStatic L.statics hS0 hiss (w (.isRef (.static Bundle.tN "SUPPRESSED_SENTINEL" Bundle.listD)) (by simp [nsAtoms]))
  obtain ⟨ci198, i198, fB, b1, b2, b3, b4, -, b6, b7, b8⟩ := Cond.ownField (t := .object "java/lang/Object") Y.found L.cls (by decide +kernel) (w (.fieldLink Bundle.tN 198 Bundle.tN "backtrace" "Ljava/lang/Object;") (by simp [nsAtoms])) (w (.lays Bundle.tN Bundle.tN "backtrace" "Ljava/lang/Object;") (by simp [nsAtoms])) e.platform hpl
  obtain ⟨cS, hS1, hS2, -, hS4⟩ := X.same.2.2.2.2.2 T.aS cS0 hS0
  have hS1 : W9.heap[T.aS]? = some cS := hS1
  have hno : ∀ i, (⟨T.aS, i⟩ : Loc) ∉ locs := fun i hm => by
    have h9 := hlocs _ hm cS0 hS0
    rw [hiss] at h9
    cases h9
  have hkn : cS.vm ≠ .unknown := by
    rw [hS2]
    intro h9
    rw [show cS0.vm = .unknown from h9] at hiss
    cases hiss
  have hne : T.aS ≠ a := Nat.ne_of_lt (Nat.lt_of_lt_of_le (Array.getElem?_eq_some_iff.mp hS0).1 hnew)
  obtain ⟨iM, hM⟩ := Y.msg
  obtain ⟨tC, dC, lC, nC⟩ := Cond.laysAt hfd hk Y.cause (w (.lays nsN Bundle.tN "cause" "Ljava/lang/Throwable;") (by simp [nsAtoms]))
  obtain ⟨tS, dS, lS, nS⟩ := Cond.laysAt hfd hk Y.stack (w (.lays nsN Bundle.tN "stackTrace" Bundle.steD) (by simp [nsAtoms]))
  obtain ⟨tP, dP, lP, nP⟩ := Cond.laysAt hfd hk Y.supp (w (.lays nsN Bundle.tN "suppressedExceptions" Bundle.listD) (by simp [nsAtoms]))
  obtain ⟨tM, dM, lM, nM⟩ := Cond.laysAt hfd hk hM (w (.lays nsN Bundle.tN "detailMessage" "Ljava/lang/String;") (by simp [nsAtoms]))
  obtain ⟨tB, dB, lB, nB⟩ := Cond.laysAt hfd hk b8 (w (.lays nsN Bundle.tN "backtrace" "Ljava/lang/Object;") (by simp [nsAtoms]))
  have oC := Cond.laysApart lB lC nB nC (by rw [b6, Y.causeName]; decide)
  have oS := Cond.laysApart lB lS nB nS (by rw [b6, Y.stackName]; decide)
  have oP := Cond.laysApart lB lP nB nP (by rw [b6, Y.suppName]; decide)
  have hsk : SkipFacts T e.platform s (fun u => u) u0 ((preparedCellV T.toThrowableT (freshCell P1.m.cls kX) a u0 sen).withEntry W9.cur) := by
    refine ⟨{ ci198 := ci198, i198 := i198, fBack := fB }, ⟨b1, b2, b3, b4⟩, ?_, fun _ _ => rfl⟩
    have h9 := fresh_default (c := P1.m.cls) tB
    rw [b7] at h9
    simpa [preparedCellV, Cell.setSlot, Cell.withEntry, Array.getElem?_setIfInBounds, oC, oS, oP, oC.symm, oS.symm, oP.symm, defaultValue] using h9
  obtain ⟨tm, methC, cdC, kC, vm₁, hnC, -, -, -, -, -, -, -, hW₁, st1⟩ := Steps.initColdS (tb := p.tables) (e := e) (below := below) (s := s) (U := W9) X.here hexec X.warmed hpl hown (t := Bundle.initS nsN) rfl rfl (by decide +kernel)
    (w (.methodLink own ic (Bundle.initS nsN)) (by simp [nsAtoms])) (h (.instanceMethod (Bundle.initS nsN)) (by simp [nsAtoms, Bundle.passSAtoms])) (bytes := nsB) (maxL := 2) (h (.code (Bundle.initS nsN) nsB 2 none) (by simp [nsAtoms, Bundle.passSAtoms]))
    (f := g) hg (a := a) (msg := msg) (rest := .ref a :: rest) hstack hd6
  cases Option.some.inj (hnC.symm.trans hP1)
  have X₁ := X.noted hW₁
  have hl1 : Ps.length = 1 := hlen
  obtain ⟨vm₂, X₂, st2⟩ := X₁.ctorMessageOffV hexec (g := { g with stack := .ref a :: rest }) hg hsize T L Z LZ M LM (P1 :: P2 :: Ps)
    (fun P hP => by
      rcases List.mem_cons.mp hP with rfl | hP
      · exact L1
      · rcases List.mem_cons.mp hP with rfl | hP
        · exact L2
        · exact hL P hP) ⟨hj1, hj, hjs⟩ (u0 := u0) (sen := sen) (self := a) hmsg (cell := freshCell P1.m.cls kX) (cellS := cS)
    hcell (fun _ => by simp) (by simp) rfl rfl hsel0 hselF hS1 hne hkn (by rw [hS4 _ (hno _)]; exact hu0) (by rw [hS4 _ (hno _)]; exact hsen)
    (Takes.of_laid hk hord tC (by rw [Y.causeType]; rfl)) (Takes.of_laid hk hord tS (by rw [Y.stackType]; exact fits_refV_array _ u0)) (Takes.of_laid hk hord tP (by rw [Y.suppType]; exact fits_refV_object _ sen))
    (Takes.of_laid hk hord tM (by rw [Y.msgType]; exact fits_refV_object _ ⟨msg, hmsg⟩)) Y.objLocals hsk htr [] hd6
    (by simp only [List.length_cons, hl1]; omega) (by simp only [List.length_cons, hl1]; exact hRl)
  obtain ⟨hwalk, hrun, hended, hWU, hsame⟩ := X₂.athrowLeaves hexec (g := { g with stack := .ref a :: rest, pc := g.pc + 3 }) hg hlocked hentered hout (a := a) (rest := rest) rfl hd9
  have hlt : a < ((W9.setVm vm₁).setVm vm₂).heap.size := (Array.getElem?_eq_some_iff.mp hcell).1
  have hU := heapAt_setCell_self (s := (W9.setVm vm₁).setVm vm₂) (plainBareV T.toThrowableT (freshCell P1.m.cls kX) a u0 sen msg) hlt
  refine ⟨_, st1 _ (fun acts => ?_), hrun, hended, hWU, hsame.weaken (fun y hy hlt' => ?_) (Nat.le_refl _) (Nat.le_refl _), _, hU, hfd, rfl⟩
  · rw [doInvoke_state]
    exact st2 _ hwalk
  · rcases List.mem_append.mp hy with h1 | h1
    · exact h1
    · exfalso
      have hb : y.base = a := by
        simp only [List.mem_cons, List.not_mem_nil, or_false] at h1
        rcases h1 with rfl | rfl | rfl | rfl | rfl <;> rfl
      rw [hb] at hlt'
      exact Nat.not_lt.mpr hnew hlt'
end NSE
section NSEnds
variable {p : Program} {l : Launch} {e : Env} {R : Room} {s : State} {m : MethodId} {args : Array Value} {below : List Frame} {meth : Method} {c : Code} {H : Heap} {locs : List Loc} {cells slots : Nat} {Q : State → Prop}
variable {mc ms : Nat} {free : Addr → Prop} {A0 A1 : Nat → Prop} {H0 : Heap} {a : Array Value} {ls : Array Slot} {st0 rest : List Value}
variable {Qc : Array Value → State → Outcome → State → Prop} {XC : String → State → State → Prop}
theorem ns_throwS {cc : ByteArray} {pc : Nat} (hexec : p.tables.exec = Jvm.exec) (hb : c.code = cc) (hl : l.stackTraces = false) {own text : String} {ik is ic mc ms sa : Nat} {A : Nat → Prop}
    (hown : s.vm.findClass own = some m.cls)
    (hk : (Cond.classLink own ik nsN).before args s = true) (hini : (Cond.initialized nsN).before args s = true) (hstr : vk_R own is text sa s) (hat : ∀ w ∈ (nsAtoms own ic).filter vx_no, w.before args s = true)
    (hgood : ∀ w ∈ Cond.classLink own ik nsN :: Cond.initialized nsN :: (nsAtoms own ic).filter vx_no, vx_ot w = true)
    (hU : vx_Zq Bundle.tN "UNASSIGNED_STACK" Bundle.steD A s s.heap) (hN : vx_Zq Bundle.tN "SUPPRESSED_SENTINEL" Bundle.listD A s s.heap) (hS : va_S A s.heap H locs) (hsize : ls.size = c.maxLocals)
    (d0 : decode cc pc = .ok (.new ik, 3)) (d3 : decode cc (pc + 3) = .ok (.dup, 1)) (d4 : decode cc (pc + 4) = .ok (.ldc is, 2)) (d6 : decode cc (pc + 6) = .ok (.invokespecial ic, 3)) (d9 : decode cc (pc + 9) = .ok (.athrow, 1))
    (hout : ∀ x ∈ c.exceptionTable.toList, covers x (pc + 9) = false)
    (hRframes : 5 < R.frames) (hRlocals : (rest.map fun v => v.category).sum + 82 ≤ R.locals) (hRcells : cells + 1 ≤ R.cells) (hRslots : slots + 6 ≤ R.slots) (hlocks : meth.locks = false)
    (hx : ∀ t : State, s.vm.Alike t.vm → H.size ≤ t.heap.size → (∀ q : Nat, q < H.size → t.heap[q]? = H[q]?) → XC nsN s t)
    (hf : ∀ z ∈ locs, free z.base) (hc : cells + 1 ≤ mc) (hs : slots + 6 ≤ ms) :
    W p l e R s m args below meth c H locs cells slots (vx_MQ below Qc XC args s mc ms free) (F0 m pc ls rest) := by
  intro T hT X
  have htr : e.platform.stackTraces = false := (show e.platform.stackTraces = l.stackTraces by rw [X.admits.platform]).trans hl
  have Y := vx_rebase X (R' := { frames := R.frames, locals := R.locals, cells := 1, slots := 6 }) (Nat.le_refl _) (Nat.le_refl _) hRcells hRslots
  obtain ⟨s', hA⟩ : ∃ z, z = (T.setVm s.vm).setFrames (.invoking m args :: below) := ⟨_, rfl⟩
  rw [← hA] at Y
  have hvm : s'.vm = s.vm := by rw [hA]; rfl
  have hhp : s'.heap = H := by rw [hA]; exact hT
  have hW0 : s.WarmedH s'.vm := by rw [hvm]; exact State.WarmedH.refl s
  have hat' : ∀ w ∈ (nsAtoms own ic).filter vx_no, w.before args s' = true := fun w hw => vx_ot_at hW0 hvm.symm (hgood w (List.mem_cons_of_mem _ (List.mem_cons_of_mem _ hw))) (hat w hw)
  have hk' : (Cond.classLink own ik nsN).before args s' = true := vx_ot_at hW0 hvm.symm (hgood _ List.mem_cons_self) hk
  have hini' : (Cond.initialized nsN).before args s' = true := vx_ot_at hW0 hvm.symm (hgood _ (List.mem_cons_of_mem _ List.mem_cons_self)) hini
  have hU' : vx_Zq Bundle.tN "UNASSIGNED_STACK" Bundle.steD A s' s'.heap := by rw [hhp]; exact vx_Zq.moved hW0.alike (hU.kept hS.2.1)
  have hN' : vx_Zq Bundle.tN "SUPPRESSED_SENTINEL" Bundle.listD A s' s'.heap := by rw [hhp]; exact vx_Zq.moved hW0.alike (hN.kept hS.2.1)
  have h : ∀ w ∈ nsAtoms own ic, w.before args s' = true := vx_own hat' (vx_isRefq hU'.1) (vx_isRefq hN'.1) hU'.2.word hN'.2.word
  have hown' : s'.vm.findClass own = some m.cls := by rw [hvm]; exact hown
  have hins : (Cond.instantiable nsN 6).before args s' = true := h _ (by simp [nsAtoms])
  obtain ⟨vm₁, cX, kX, hfX, hkX, -, -, X₁, st1⟩ := Y.newCold hexec (own := own) (C := nsN) (index := ik) (n := 6) hown' hk' hins hini'
    (g := F0 m pc ls rest) rfl (by rw [hb]; exact d0) (Nat.le_refl _) (Nat.le_refl _)
  generalize hT1 : (T.setVm vm₁).pushCell { cls := cX, slots := kX.instanceTypes.map defaultValue, vm := .none } = T1 at X₁ st1
  have hcat : (Value.ref T.heap.size).category = 1 := rfl
  have hcellA : T1.heap[T.heap.size]? = some (freshCell cX kX) := by rw [← hT1]; exact State.heap_pushCell_size _ _
  have d3' : decode c.code (pc + 3) = .ok (.dup, 1) := by rw [hb]; exact d3
  have d4' : decode c.code (pc + 4) = .ok (.ldc is, 2) := by rw [hb]; exact d4
  have hstr' : vk_R own is text sa s' := vk_R.warm hW0 hstr
  obtain ⟨U, hsteps, hrun, hend, hW, hsame, ce, hce, hO1, hO2⟩ := ns_ctor X₁ hexec htr (own := own) (ic := ic) hown' h (fun x hx => nomatch hx) hfX hkX hcellA (by rw [hhp, hT]; exact Nat.le_refl _) (msg := .ref sa) rfl
    (g := { method := m, pc := pc + 6, locals := ls, stack := .ref sa :: .ref T.heap.size :: .ref T.heap.size :: rest, locked := none }) rfl hsize rfl rfl (rest := rest) rfl
    (by rw [hb]; exact d6) (by rw [hb]; exact d9) hout hRframes (by simp only [List.map_cons, List.sum_cons, hcat]; omega) hlocks
  obtain ⟨f1, f2⟩ := vx_frame hsame
  rw [hhp] at f1 f2
  have hWs : s.WarmedH U.vm := State.WarmedH.trans hW0 hW
  have hcl : s.vm.findClass nsN = some ce.cls := by
    have h9 := hO1
    rw [hvm] at h9
    exact h9
  have hall : s.sameButNew ({ U with vm := s.vm } : State) locs mc ms := by
    subst hA
    obtain ⟨e1, e2⟩ := hsame
    rw [State.setFrames_setFrames] at e1
    have h2 : (T.setVm s.vm).sameButNew ({ U with vm := s.vm } : State) [] (0 + 1) (0 + 6) := ⟨e1, e2⟩
    have h3 := X.same.trans h2
    rw [List.append_nil] at h3
    exact h3.mono hc hs
  refine ⟨U, ?_, .threw T.heap.size, hrun, hend, Or.inr ⟨T.heap.size, rfl, nsN, ce, locs, hx U hWs.alike f1 (fun q hq => f2 q hq (fun z hz => nomatch hz)), hce, hO2, hcl, hWs, hall, hf⟩⟩
  refine st1 _ ?_
  show Steps p.tables e below (T1.setTop { method := m, pc := pc + 3, locals := ls, stack := .ref T.heap.size :: rest, locked := none }) _
  jvm_step X₁.here [X₁.here.top, hexec, d3', Value.category]
  exact X₁.ldcString hexec (own := own) (text := text) (index := is) (a := sa) hown' hstr'.1 hstr'.2
    (g := { method := m, pc := pc + 4, locals := ls, stack := .ref T.heap.size :: .ref T.heap.size :: rest, locked := none }) rfl d4' _ hsteps
theorem ns_throwSW {cc : ByteArray} {pc : Nat} (hexec : p.tables.exec = Jvm.exec) (hb : c.code = cc) (hl : l.stackTraces = false) {own text : String} {ik is ic mc ms sa : Nat} {A : Nat → Prop}
    (hown : s.vm.findClass own = some m.cls)
    (hk : (Cond.classLink own ik nsN).before args s = true) (hini : (Cond.initialized nsN).before args s = true) (hstr : vk_R own is text sa s) (hat : ∀ w ∈ (nsAtoms own ic).filter vx_no, w.before args s = true)
    (hgood : ∀ w ∈ Cond.classLink own ik nsN :: Cond.initialized nsN :: (nsAtoms own ic).filter vx_no, vx_ot w = true)
    (hU : vx_Zq Bundle.tN "UNASSIGNED_STACK" Bundle.steD A s s.heap) (hN : vx_Zq Bundle.tN "SUPPRESSED_SENTINEL" Bundle.listD A s s.heap) (hS : va_S A s.heap H locs) (hsize : ls.size = c.maxLocals)
    (d0 : decode cc pc = .ok (.new ik, 3)) (d3 : decode cc (pc + 3) = .ok (.dup, 1)) (d4 : decode cc (pc + 4) = .ok (.ldc_w is, 3)) (d7 : decode cc (pc + 7) = .ok (.invokespecial ic, 3)) (d10 : decode cc (pc + 10) = .ok (.athrow, 1))
    (hout : ∀ x ∈ c.exceptionTable.toList, covers x (pc + 10) = false)
    (hRframes : 5 < R.frames) (hRlocals : (rest.map fun v => v.category).sum + 82 ≤ R.locals) (hRcells : cells + 1 ≤ R.cells) (hRslots : slots + 6 ≤ R.slots) (hlocks : meth.locks = false)
    (hx : ∀ t : State, s.vm.Alike t.vm → H.size ≤ t.heap.size → (∀ q : Nat, q < H.size → t.heap[q]? = H[q]?) → XC nsN s t)
    (hf : ∀ z ∈ locs, free z.base) (hc : cells + 1 ≤ mc) (hs : slots + 6 ≤ ms) :
    W p l e R s m args below meth c H locs cells slots (vx_MQ below Qc XC args s mc ms free) (F0 m pc ls rest) := by
  intro T hT X
  have htr : e.platform.stackTraces = false := (show e.platform.stackTraces = l.stackTraces by rw [X.admits.platform]).trans hl
  have Y := vx_rebase X (R' := { frames := R.frames, locals := R.locals, cells := 1, slots := 6 }) (Nat.le_refl _) (Nat.le_refl _) hRcells hRslots
  obtain ⟨s', hA⟩ : ∃ z, z = (T.setVm s.vm).setFrames (.invoking m args :: below) := ⟨_, rfl⟩
  rw [← hA] at Y
  have hvm : s'.vm = s.vm := by rw [hA]; rfl
  have hhp : s'.heap = H := by rw [hA]; exact hT
  have hW0 : s.WarmedH s'.vm := by rw [hvm]; exact State.WarmedH.refl s
  have hat' : ∀ w ∈ (nsAtoms own ic).filter vx_no, w.before args s' = true := fun w hw => vx_ot_at hW0 hvm.symm (hgood w (List.mem_cons_of_mem _ (List.mem_cons_of_mem _ hw))) (hat w hw)
  have hk' : (Cond.classLink own ik nsN).before args s' = true := vx_ot_at hW0 hvm.symm (hgood _ List.mem_cons_self) hk
  have hini' : (Cond.initialized nsN).before args s' = true := vx_ot_at hW0 hvm.symm (hgood _ (List.mem_cons_of_mem _ List.mem_cons_self)) hini
  have hU' : vx_Zq Bundle.tN "UNASSIGNED_STACK" Bundle.steD A s' s'.heap := by rw [hhp]; exact vx_Zq.moved hW0.alike (hU.kept hS.2.1)
  have hN' : vx_Zq Bundle.tN "SUPPRESSED_SENTINEL" Bundle.listD A s' s'.heap := by rw [hhp]; exact vx_Zq.moved hW0.alike (hN.kept hS.2.1)
  have h : ∀ w ∈ nsAtoms own ic, w.before args s' = true := vx_own hat' (vx_isRefq hU'.1) (vx_isRefq hN'.1) hU'.2.word hN'.2.word
  have hown' : s'.vm.findClass own = some m.cls := by rw [hvm]; exact hown
  have hins : (Cond.instantiable nsN 6).before args s' = true := h _ (by simp [nsAtoms])
  obtain ⟨vm₁, cX, kX, hfX, hkX, -, -, X₁, st1⟩ := Y.newCold hexec (own := own) (C := nsN) (index := ik) (n := 6) hown' hk' hins hini'
    (g := F0 m pc ls rest) rfl (by rw [hb]; exact d0) (Nat.le_refl _) (Nat.le_refl _)
  generalize hT1 : (T.setVm vm₁).pushCell { cls := cX, slots := kX.instanceTypes.map defaultValue, vm := .none } = T1 at X₁ st1
  have hcat : (Value.ref T.heap.size).category = 1 := rfl
  have hcellA : T1.heap[T.heap.size]? = some (freshCell cX kX) := by rw [← hT1]; exact State.heap_pushCell_size _ _
  have d3' : decode c.code (pc + 3) = .ok (.dup, 1) := by rw [hb]; exact d3
  have d4' : decode c.code (pc + 4) = .ok (.ldc_w is, 3) := by rw [hb]; exact d4
  have hstr' : vk_R own is text sa s' := vk_R.warm hW0 hstr
  obtain ⟨U, hsteps, hrun, hend, hW, hsame, ce, hce, hO1, hO2⟩ := ns_ctor X₁ hexec htr (own := own) (ic := ic) hown' h (fun x hx => nomatch hx) hfX hkX hcellA (by rw [hhp, hT]; exact Nat.le_refl _) (msg := .ref sa) rfl
    (g := { method := m, pc := pc + 7, locals := ls, stack := .ref sa :: .ref T.heap.size :: .ref T.heap.size :: rest, locked := none }) rfl hsize rfl rfl (rest := rest) rfl
    (by rw [hb]; exact d7) (by rw [hb]; exact d10) hout hRframes (by simp only [List.map_cons, List.sum_cons, hcat]; omega) hlocks
  obtain ⟨f1, f2⟩ := vx_frame hsame
  rw [hhp] at f1 f2
  have hWs : s.WarmedH U.vm := State.WarmedH.trans hW0 hW
  have hcl : s.vm.findClass nsN = some ce.cls := by
    have h9 := hO1
    rw [hvm] at h9
    exact h9
  have hall : s.sameButNew ({ U with vm := s.vm } : State) locs mc ms := by
    subst hA
    obtain ⟨e1, e2⟩ := hsame
    rw [State.setFrames_setFrames] at e1
    have h2 : (T.setVm s.vm).sameButNew ({ U with vm := s.vm } : State) [] (0 + 1) (0 + 6) := ⟨e1, e2⟩
    have h3 := X.same.trans h2
    rw [List.append_nil] at h3
    exact h3.mono hc hs
  refine ⟨U, ?_, .threw T.heap.size, hrun, hend, Or.inr ⟨T.heap.size, rfl, nsN, ce, locs, hx U hWs.alike f1 (fun q hq => f2 q hq (fun z hz => nomatch hz)), hce, hO2, hcl, hWs, hall, hf⟩⟩
  refine st1 _ ?_
  show Steps p.tables e below (T1.setTop { method := m, pc := pc + 3, locals := ls, stack := .ref T.heap.size :: rest, locked := none }) _
  jvm_step X₁.here [X₁.here.top, hexec, d3', Value.category]
  exact X₁.ldcStringW hexec (own := own) (text := text) (index := is) (a := sa) hown' hstr'.1 hstr'.2
    (g := { method := m, pc := pc + 4, locals := ls, stack := .ref T.heap.size :: .ref T.heap.size :: rest, locked := none }) rfl d4' _ hsteps
end NSEnds
def XN (ik ic : Nat) : Prop := Cond.classLink RX8 ik nsN ∈ lw_tbl ∧ Cond.initialized nsN ∈ lw_tbl ∧ (∀ w ∈ (nsAtoms RX8 ic).filter vx_no, w ∈ lw_tbl) ∧ (∀ w ∈ Cond.classLink RX8 ik nsN :: Cond.initialized nsN :: (nsAtoms RX8 ic).filter vx_no, tbOK w = true ∧ vx_ot w = true)
def XRN (ik ic : Nat) (cls : String) : Prop := XR ik ic cls ∨ (cls = nsN ∧ XN ik ic)
section KX
variable {p : Program} {l : Launch} {e : Env} {R : Room} {s : State} {m : MethodId} {args : Array Value} {below : List Frame} {meth : Method} {c : Code} {H : Heap} {locs : List Loc} {cells slots : Nat} {Q : State → Prop}
variable {cc : ByteArray} {pc nL : Nat} {ls : Array Slot} {rest : List Value} {k : KT} {A : Nat → Prop} {ws ws2 : va_W} {H0 : Heap} {own : String} {a : Nat}
theorem va_S.up {T : State} (h : va_S A s.heap H locs) (h1 : H.size ≤ T.heap.size) (h2 : ∀ q : Nat, q < H.size → T.heap[q]? = H[q]?) : va_F A s T := ⟨Nat.le_trans h.1 h1, fun q hq hA => by rw [h2 q (Nat.lt_of_lt_of_le hq h.1)]; exact h.2.1 q hq hA⟩
/-- a throw of one of the four, of the class RX8's own -/
theorem k_throw {S : Type} {mc ms : Nat} {Qc : Array Value → State → Outcome → State → Prop} {W1 : S → va_W} {px : Nat → S → Prop} {cd : Nat} {u : S} {lv : List (Nat × Value)} (hx : XH l k) (E : E0 p s m c cc nL RX8 k A) {ik ic is : Nat} {text : String} (hr : XRN ik ic (xName cd)) (htx : (is, text) ∈ xTexts) (hp : px cd u) (hW : WD k A s.heap (W1 u) H locs) (hl : lv_has ls nL lv)
    (hd : XD cc pc ik is ic)
    (ht : ∀ x ∈ c.exceptionTable.toList, False) (hlk : meth.locks = false) (hRf : 5 < R.frames) (hRl : 82 ≤ R.locals) (hRc : cells + 1 ≤ R.cells) (hRs : slots + 6 ≤ R.slots) (hc : cells + 1 ≤ mc) (hs : slots + 6 ≤ ms) :
    W p l e R s m args below meth c H locs cells slots (vx_MQ below Qc (Xq k W1 px A) args s mc ms A) (F0 m pc ls []) := by
  obtain ⟨hst, hsf⟩ := hx
  obtain ⟨hU, hN, hT⟩ := hsf A s s.heap E.sf
  obtain ⟨sa, hsa⟩ := hT _ htx
  rcases hr with ⟨⟨r1, r2⟩, r3, r4, r5, r6⟩ | ⟨hcls, r3, r4, r5, r6⟩
  · obtain ⟨d0, d3, ⟨d4, d6, d9⟩ | ⟨d4, d6, d9⟩⟩ := hd
    · exact vx_throwS (names := xNames) E.hx E.hb hst E.ho r1 r2 (E.w r3 (r6 _ List.mem_cons_self).1) (E.w r4 (r6 _ (List.mem_cons_of_mem _ List.mem_cons_self)).1) hsa
        (fun w hw => E.w (r5 w hw) (r6 w (List.mem_cons_of_mem _ (List.mem_cons_of_mem _ hw))).1) (fun w hw => (r6 w hw).2) hU hN hW.2.2 (hl.1.trans E.hml.symm) d0 d3 d4 d6 d9
        (fun x hx => (ht x hx).elim) hRf hRl hRc hRs hlk
        (fun t _ h1 h2 => ⟨(cd, u), hp, ⟨rfl, hW.1.kept (fun k q hk => h2 q.1 (hW.1 k q hk).lt), hW.2.1⟩, hW.2.2.up h1 h2⟩) hW.2.2.2.2 hc hs
    · exact vx_throwSW (names := xNames) E.hx E.hb hst E.ho r1 r2 (E.w r3 (r6 _ List.mem_cons_self).1) (E.w r4 (r6 _ (List.mem_cons_of_mem _ List.mem_cons_self)).1) hsa
        (fun w hw => E.w (r5 w hw) (r6 w (List.mem_cons_of_mem _ (List.mem_cons_of_mem _ hw))).1) (fun w hw => (r6 w hw).2) hU hN hW.2.2 (hl.1.trans E.hml.symm) d0 d3 d4 d6 d9
        (fun x hx => (ht x hx).elim) hRf hRl hRc hRs hlk
        (fun t _ h1 h2 => ⟨(cd, u), hp, ⟨rfl, hW.1.kept (fun k q hk => h2 q.1 (hW.1 k q hk).lt), hW.2.1⟩, hW.2.2.up h1 h2⟩) hW.2.2.2.2 hc hs
  · obtain ⟨d0, d3, ⟨d4, d6, d9⟩ | ⟨d4, d6, d9⟩⟩ := hd
    · exact ns_throwS E.hx E.hb hst E.ho (E.w r3 (r6 _ List.mem_cons_self).1) (E.w r4 (r6 _ (List.mem_cons_of_mem _ List.mem_cons_self)).1) hsa
        (fun w hw => E.w (r5 w hw) (r6 w (List.mem_cons_of_mem _ (List.mem_cons_of_mem _ hw))).1) (fun w hw => (r6 w hw).2) hU hN hW.2.2 (hl.1.trans E.hml.symm) d0 d3 d4 d6 d9
        (fun x hx => (ht x hx).elim) hRf hRl hRc hRs hlk
        (fun t _ h1 h2 => ⟨(cd, u), hp, ⟨hcls.symm, hW.1.kept (fun k q hk => h2 q.1 (hW.1 k q hk).lt), hW.2.1⟩, hW.2.2.up h1 h2⟩) hW.2.2.2.2 hc hs
    · exact ns_throwSW E.hx E.hb hst E.ho (E.w r3 (r6 _ List.mem_cons_self).1) (E.w r4 (r6 _ (List.mem_cons_of_mem _ List.mem_cons_self)).1) hsa
        (fun w hw => E.w (r5 w hw) (r6 w (List.mem_cons_of_mem _ (List.mem_cons_of_mem _ hw))).1) (fun w hw => (r6 w hw).2) hU hN hW.2.2 (hl.1.trans E.hml.symm) d0 d3 d4 d6 d9
        (fun x hx => (ht x hx).elim) hRf hRl hRc hRs hlk
        (fun t _ h1 h2 => ⟨(cd, u), hp, ⟨hcls.symm, hW.1.kept (fun k q hk => h2 q.1 (hW.1 k q hk).lt), hW.2.1⟩, hW.2.2.up h1 h2⟩) hW.2.2.2.2 hc hs
/-- what a callee threw goes on to the caller -/
theorem k_out {S : Type} {mc ms : Nat} {Qc : Array Value → State → Outcome → State → Prop} {W1 : S → va_W} {px : Nat → S → Prop} {cd : Nat} {u : S} {ce : Cell} {q : Addr} (hp : px cd u) (hW : WD k A s.heap (W1 u) H locs) (hce : H[q]? = some ce) (hv : ce.vm = .none) (hcl : s.vm.findClass (xName cd) = some ce.cls)
    (ht : ∀ x ∈ c.exceptionTable.toList, False) (hlk : meth.locks = false) (hc : cells ≤ mc) (hs : slots ≤ ms) :
    vx_W p l e R s m args below meth c H locs cells slots (vx_MQ below Qc (Xq k W1 px A) args s mc ms A) (F0 m pc ls rest) q :=
  vx_out (fun x hx => (ht x hx).elim) hlk hce hv hcl (fun t h1 _ => ⟨(cd, u), hp, ⟨rfl, by rw [h1]; exact hW.1, hW.2.1⟩, hW.2.2.F h1⟩) hW.2.2.2.2 hc hs
theorem k_callXv {C : String} {index mx n fr mc ms loc : Nat} {y : MethodName} {bytes : ByteArray} {ret : Option FieldType} {S : Type} {W0 : va_W} {W1 : S → va_W} {post : S → Prop} {px : Nat → S → Prop} {As : List Value} {lv : List (Nat × Value)} {st0 : List Value} {fs : List Value} {T : u_T} {N : Nat}
    (hM : CX l k y bytes mx ret fr mc ms loc (.ref a :: As) W0 (Qv k W1 post) (Xq k W1 px)) (E : E0 p s m c cc nL own k A) (hV : VL own index C y bytes mx ret n) (hdg : decode cc pc = .ok (.invokevirtual index, 3)) (hst : st0 = As.reverse ++ .ref a :: rest) (isC : List Nat) (ci q0 : Nat)
    (hW : WD k A s.heap ws H locs) (hA : ∀ q : Nat, s.heap.size ≤ q → A q) (hl : lv_has ls nL lv) (hn : As.length = n) (hC : isC.map (fun i => ws[i]?) = W0.map some) (hc : vwCl[ci]? = some (C, T, N)) (he : ws[q0]? = some (a, .inr (ci, fs))) (hR : fr + 1 ≤ R.frames ∧ 8 + (mx + 11) + loc ≤ R.locals) (hroom : cells + mc ≤ R.cells ∧ slots + ms ≤ R.slots) (hcat : (rest.map fun v => v.category).sum ≤ 8) (hnd : va_nd isC = true) (hf : ∀ u, (W1 u).map Prod.fst = W0.map Prod.fst) {ws2 : S → va_W} (hws : ∀ u, putW ws isC (W1 u) = ws2 u)
    (qx : ∀ (cd : Nat) (u : S) (ce : Cell) (q9 : Addr) (H1 : Heap) (locs1 : List Loc), px cd u → WD k A s.heap (ws2 u) H1 locs1 → H1[q9]? = some ce → ce.vm = .none → s.vm.findClass (xName cd) = some ce.cls → vx_W p l e R s m args below meth c H1 locs1 (cells + mc) (slots + ms) Q (F0 m pc ls rest) q9)
    (q : ∀ (u : S) (H1 : Heap) (locs1 : List Loc), post u → WD k A s.heap (ws2 u) H1 locs1 → W p l e R s m args below meth c H1 locs1 (cells + mc) (slots + ms) Q (F0 m (pc + 3) ls rest)) : W p l e R s m args below meth c H locs cells slots Q (F0 m pc ls st0) := by
  subst hst
  obtain ⟨hfree, hpre⟩ := pre_call E rfl hW hA isC hC hnd
  refine vx_callv (vx_runV (As := As) (rest := rest) E.fix (hM H.size) (hV.cw E hR) ⟨Bpre.blind, va_recv E.hK hW.1 hc he, fun U hU hw => ⟨rfl, hpre U hU hw⟩⟩ rfl hn hl.1 rfl (lv_room hcat) hdg hroom) hW.2.2 (fun q _ h => hfree q h) hfree (fun q _ h => hfree q h) (fun E9 ce q9 u t H1 locs1 ht hvm hp hB hz hk hS hce hcv hcl => ?_) (fun u t H1 locs1 ht hvm hp hB hz hk hS => ?_)
  · obtain ⟨rfl, hP1, hD1⟩ := hB
    rw [ht] at hP1
    obtain ⟨g1, g2⟩ := call_frame hW.1 hW.2.1 isC hC (hf u.2) hk hP1
    rw [hws] at g1 g2
    exact qx u.1 u.2 ce q9 H1 locs1 hp ⟨g1, g2, hS⟩ hce hcv hcl
  · obtain ⟨hP1, hD1⟩ := hB
    rw [ht] at hP1
    obtain ⟨g1, g2⟩ := call_frame hW.1 hW.2.1 isC hC (hf u) hk hP1
    rw [hws] at g1 g2
    exact q u H1 locs1 hp ⟨g1, g2, hS⟩
theorem k_callXi {C : String} {index mx n fr mc ms loc : Nat} {y : MethodName} {bytes : ByteArray} {ret : Option FieldType} {S : Type} {W0 : va_W} {W1 : S → va_W} {post : Int32 → S → Prop} {px : Nat → S → Prop} {As : List Value} {lv : List (Nat × Value)} {st0 : List Value} {fs : List Value} {T : u_T} {N : Nat}
    (hM : CX l k y bytes mx ret fr mc ms loc (.ref a :: As) W0 (Qi k W1 post) (Xq k W1 px)) (E : E0 p s m c cc nL own k A) (hV : VL own index C y bytes mx ret n) (hdg : decode cc pc = .ok (.invokevirtual index, 3)) (hst : st0 = As.reverse ++ .ref a :: rest) (isC : List Nat) (ci q0 : Nat)
    (hW : WD k A s.heap ws H locs) (hA : ∀ q : Nat, s.heap.size ≤ q → A q) (hl : lv_has ls nL lv) (hn : As.length = n) (hC : isC.map (fun i => ws[i]?) = W0.map some) (hc : vwCl[ci]? = some (C, T, N)) (he : ws[q0]? = some (a, .inr (ci, fs))) (hR : fr + 1 ≤ R.frames ∧ 8 + (mx + 11) + loc ≤ R.locals) (hroom : cells + mc ≤ R.cells ∧ slots + ms ≤ R.slots) (hcat : (rest.map fun v => v.category).sum ≤ 8) (hnd : va_nd isC = true) (hf : ∀ u, (W1 u).map Prod.fst = W0.map Prod.fst) {ws2 : S → va_W} (hws : ∀ u, putW ws isC (W1 u) = ws2 u)
    (qx : ∀ (cd : Nat) (u : S) (ce : Cell) (q9 : Addr) (H1 : Heap) (locs1 : List Loc), px cd u → WD k A s.heap (ws2 u) H1 locs1 → H1[q9]? = some ce → ce.vm = .none → s.vm.findClass (xName cd) = some ce.cls → vx_W p l e R s m args below meth c H1 locs1 (cells + mc) (slots + ms) Q (F0 m pc ls rest) q9)
    (q : ∀ (r : Int32) (u : S) (H1 : Heap) (locs1 : List Loc), post r u → WD k A s.heap (ws2 u) H1 locs1 → W p l e R s m args below meth c H1 locs1 (cells + mc) (slots + ms) Q (F0 m (pc + 3) ls (.int r :: rest))) : W p l e R s m args below meth c H locs cells slots Q (F0 m pc ls st0) := by
  subst hst
  obtain ⟨hfree, hpre⟩ := pre_call E rfl hW hA isC hC hnd
  refine vx_calli (vx_runV (As := As) (rest := rest) E.fix (hM H.size) (hV.cw E hR) ⟨Bpre.blind, va_recv E.hK hW.1 hc he, fun U hU hw => ⟨rfl, hpre U hU hw⟩⟩ rfl hn hl.1 rfl (lv_room hcat) hdg hroom) hW.2.2 (fun q _ h => hfree q h) hfree (fun q _ h => hfree q h) (fun E9 ce q9 u t H1 locs1 ht hvm hp hB hz hk hS hce hcv hcl => ?_) (fun r u t H1 locs1 ht hvm hp hB hz hk hS => ?_)
  · obtain ⟨rfl, hP1, hD1⟩ := hB
    rw [ht] at hP1
    obtain ⟨g1, g2⟩ := call_frame hW.1 hW.2.1 isC hC (hf u.2) hk hP1
    rw [hws] at g1 g2
    exact qx u.1 u.2 ce q9 H1 locs1 hp ⟨g1, g2, hS⟩ hce hcv hcl
  · obtain ⟨hP1, hD1⟩ := hB
    rw [ht] at hP1
    obtain ⟨g1, g2⟩ := call_frame hW.1 hW.2.1 isC hC (hf u) hk hP1
    rw [hws] at g1 g2
    exact q r u H1 locs1 hp ⟨g1, g2, hS⟩
end KX
/-- bodies of methods that may throw -/
theorem CX.ofI {l : Launch} {k : KT} {y : MethodName} {cc : ByteArray} {mx fr mc ms loc : Nat} {ty : FieldType} {av : List Value} {W0 : va_W} {S : Type} {W1 : S → va_W} {post : Int32 → S → Prop} {px : Nat → S → Prop} (hx : XH l k) (hcl : y.cls = RX8) (hy : plainName y.cls = true) (hlen : (lg_sl av).length ≤ mx) (hfr : 5 < fr) (hloc : 82 ≤ loc)
    (body : ∀ (p : Program) (e : Env) (s : State) (m : MethodId) (args : Array Value) (below : List Frame) (meth : Method) (c : Code) (A : Nat → Prop) (Q : State → Prop), E0 p s m c cc mx y.cls k A → meth.name = y.name → WD k A s.heap W0 s.heap [] → (∀ q : Nat, s.heap.size ≤ q → A q) →
      (∀ (v : Int32) (u : S) (H : Heap) (locs : List Loc) (cells slots pc : Nat) (ls : Array Slot), WD k A s.heap (W1 u) H locs → post v u → narrow ty (.int v) = .int v → cells ≤ mc → slots ≤ ms → decode cc pc = .ok (.ireturn, 1) → W p l e { frames := fr, cells := mc, slots := ms, locals := loc } s m args below meth c H locs cells slots Q (F0 m pc ls [.int v])) →
      (∀ (cd : Nat) (u : S) (ce : Cell) (q : Addr) (H : Heap) (locs : List Loc) (cells slots pc : Nat) (ls : Array Slot) (rest : List Value), px cd u → WD k A s.heap (W1 u) H locs → H[q]? = some ce → ce.vm = .none → s.vm.findClass (xName cd) = some ce.cls → cells ≤ mc → slots ≤ ms → vx_W p l e { frames := fr, cells := mc, slots := ms, locals := loc } s m args below meth c H locs cells slots Q (F0 m pc ls rest) q) →
      (∀ (cd : Nat) (u : S) (ik ic is : Nat) (text : String) (lv : List (Nat × Value)) (H : Heap) (locs : List Loc) (cells slots pc : Nat) (ls : Array Slot), XRN ik ic (xName cd) → (is, text) ∈ xTexts → px cd u → WD k A s.heap (W1 u) H locs → lv_has ls mx lv → XD cc pc ik is ic → cells + 1 ≤ mc → slots + 6 ≤ ms → W p l e { frames := fr, cells := mc, slots := ms, locals := loc } s m args below meth c H locs cells slots Q (F0 m pc ls [])) →
      ∀ ls : Array Slot, lv_has ls mx (lv_args 0 av) → W p l e { frames := fr, cells := mc, slots := ms, locals := loc } s m args below meth c s.heap [] 0 0 Q (F0 m 0 ls [])) : CX l k y cc mx (some ty) fr mc ms loc av W0 (Qi k W1 post) (Xq k W1 px) :=
  CX.of hy hlen (fun p e s m args below meth c A E hr hlk hnm ht hW hA ls hl => body p e s m args below meth c A _ E hnm hW hA (fun v u H locs cells slots pc ls hW hp hn h1 h2 hdg => vx_ret (k_ret_i E hr hlk hW hp hn h1 h2 hdg))
    (fun cd u ce q H locs cells slots pc ls rest hp hW h1 h2 h3 h4 h5 => k_out hp hW h1 h2 h3 ht hlk h4 h5)
    (fun cd u ik ic is text lv H locs cells slots pc ls hr2 htx hp hW hl hd h1 h2 => k_throw hx (by rw [hcl] at E; exact E) hr2 htx hp hW hl hd ht hlk hfr hloc h1 h2 h1 h2) ls hl)
theorem CX.ofV {l : Launch} {k : KT} {y : MethodName} {cc : ByteArray} {mx fr mc ms loc : Nat} {av : List Value} {W0 : va_W} {S : Type} {W1 : S → va_W} {post : S → Prop} {px : Nat → S → Prop} (hx : XH l k) (hcl : y.cls = RX8) (hy : plainName y.cls = true) (hlen : (lg_sl av).length ≤ mx) (hfr : 5 < fr) (hloc : 82 ≤ loc)
    (body : ∀ (p : Program) (e : Env) (s : State) (m : MethodId) (args : Array Value) (below : List Frame) (meth : Method) (c : Code) (A : Nat → Prop) (Q : State → Prop), E0 p s m c cc mx y.cls k A → meth.name = y.name → WD k A s.heap W0 s.heap [] → (∀ q : Nat, s.heap.size ≤ q → A q) →
      (∀ (u : S) (H : Heap) (locs : List Loc) (cells slots pc : Nat) (ls : Array Slot), WD k A s.heap (W1 u) H locs → post u → cells ≤ mc → slots ≤ ms → decode cc pc = .ok (.return_, 1) → W p l e { frames := fr, cells := mc, slots := ms, locals := loc } s m args below meth c H locs cells slots Q (F0 m pc ls [])) →
      (∀ (cd : Nat) (u : S) (ce : Cell) (q : Addr) (H : Heap) (locs : List Loc) (cells slots pc : Nat) (ls : Array Slot) (rest : List Value), px cd u → WD k A s.heap (W1 u) H locs → H[q]? = some ce → ce.vm = .none → s.vm.findClass (xName cd) = some ce.cls → cells ≤ mc → slots ≤ ms → vx_W p l e { frames := fr, cells := mc, slots := ms, locals := loc } s m args below meth c H locs cells slots Q (F0 m pc ls rest) q) →
      (∀ (cd : Nat) (u : S) (ik ic is : Nat) (text : String) (lv : List (Nat × Value)) (H : Heap) (locs : List Loc) (cells slots pc : Nat) (ls : Array Slot), XRN ik ic (xName cd) → (is, text) ∈ xTexts → px cd u → WD k A s.heap (W1 u) H locs → lv_has ls mx lv → XD cc pc ik is ic → cells + 1 ≤ mc → slots + 6 ≤ ms → W p l e { frames := fr, cells := mc, slots := ms, locals := loc } s m args below meth c H locs cells slots Q (F0 m pc ls [])) →
      ∀ ls : Array Slot, lv_has ls mx (lv_args 0 av) → W p l e { frames := fr, cells := mc, slots := ms, locals := loc } s m args below meth c s.heap [] 0 0 Q (F0 m 0 ls [])) : CX l k y cc mx none fr mc ms loc av W0 (Qv k W1 post) (Xq k W1 px) :=
  CX.of hy hlen (fun p e s m args below meth c A E hr hlk hnm ht hW hA ls hl => body p e s m args below meth c A _ E hnm hW hA (fun u H locs cells slots pc ls hW hp h1 h2 hdg => vx_ret (k_ret_v E hr hlk hW hp h1 h2 hdg))
    (fun cd u ce q H locs cells slots pc ls rest hp hW h1 h2 h3 h4 h5 => k_out hp hW h1 h2 h3 ht hlk h4 h5)
    (fun cd u ik ic is text lv H locs cells slots pc ls hr2 htx hp hW hl hd h1 h2 => k_throw hx (by rw [hcl] at E; exact E) hr2 htx hp hW hl hd ht hlk hfr hloc h1 h2 h1 h2) ls hl)
def bnd5 {α1 α2 α3 α4 α5 β : Type} (o : Option (α1 × α2 × α3 × α4 × α5)) (f : α1 → α2 → α3 → α4 → α5 → Option β) : Option β := o.bind (fun x => f x.1 x.2.1 x.2.2.1 x.2.2.2.1 x.2.2.2.2)
theorem ob5 {α1 α2 α3 α4 α5 β : Type} {o : Option (α1 × α2 × α3 × α4 × α5)} {f : α1 → α2 → α3 → α4 → α5 → Option β} {r : β} (h : bnd5 o f = some r) : ∃ x y z w v, o = some (x, y, z, w, v) ∧ f x y z w v = some r := by
  cases o with
  | none => cases h
  | some x => exact ⟨x.1, x.2.1, x.2.2.1, x.2.2.2.1, x.2.2.2.2, rfl, h⟩
/-! the past: its ring of courts, made when they are needed first -/
abbrev PS : Type := (Nat → Int32) × (Nat × (Nat → OS))
def pI (c : PS) (j : Nat) (v : Int32) : PS := (upd c.1 j v, c.2)
def poolW (k : KT) (pp : Nat → Nat → Nat) (P : Nat × (Nat → OS)) : va_W := (List.range P.1).flatMap (fun i => wCourt k (pp i) (P.2 i))
def wMCo (k : KT) (a : Nat → Nat) (x_input : Nat) (x_output : Nat) (x_rules : Nat) (x_now : Nat) (x_forecast : Nat) (x_reader : Nat) (x_past : Nat) (sv : Value) (c : OS) : va_W := [(a 0, .inr (6, [.ref x_input, .ref x_output, .ref x_rules, .ref x_now, .ref x_forecast, .ref x_reader, .ref x_past, sv, .int (c.1 8)]))]
def wPast (k : KT) (a : Nat → Nat) (pp : Nat → Nat → Nat)   (c : PS) : va_W := [(a 0, .inr (2, [.ref (a 1), .int (c.1 1), .int (c.1 2)])), (a 1, .inl (k.2.1.1 3, 8, .inr (.inr (.inr (.inr (fun i => if i < c.2.1 then some (pp i 0) else none))))))]
/-- a callee whose last cells may grow in number -/
theorem call_frameG {k : KT} {A : Nat → Prop} {X tail cx cx1 tail1 : va_W} {H H1 : Heap} (hP : va_P k.1 vwCl (X ++ tail) H) (hD : va_D A (X ++ tail)) (isC : List Nat) (hC : isC.map (fun i => X[i]?) = cx.map some) (hf : cx1.map Prod.fst = cx.map Prod.fst)
    (hfree : ∀ q, va_A (cx ++ tail) H.size q → A q) (hk : ∀ q : Nat, q < H.size → ¬ va_A (cx ++ tail) H.size q → H1[q]? = H[q]?) (hP1 : va_P k.1 vwCl (cx1 ++ tail1) H1) (hD1 : va_D (va_A (cx ++ tail) H.size) (cx1 ++ tail1)) : va_P k.1 vwCl (putW X isC cx1 ++ tail1) H1 ∧ va_D A (putW X isC cx1 ++ tail1) := by
  have hl0 : isC.length = cx.length := by simpa using congrArg List.length hC
  have hl1 : cx1.length = cx.length := by simpa using congrArg List.length hf
  have hat : ∀ (i j : Nat), isC[i]? = some j → ∃ q0, cx[i]? = some q0 ∧ X[j]? = some q0 := by
    intro i j hi
    have h1 : (isC.map (fun i => X[i]?))[i]? = some (X[j]?) := by rw [List.getElem?_map, hi]; rfl
    rw [hC, List.getElem?_map] at h1
    cases hq : cx[i]? with
    | none => rw [hq] at h1; cases h1
    | some q0 => rw [hq] at h1; exact ⟨q0, rfl, (Option.some.inj h1).symm⟩
  have hfst : ∀ (i : Nat) (q : Nat × va_E), cx1[i]? = some q → ∃ q0, cx[i]? = some q0 ∧ q0.1 = q.1 := by
    intro i q hq
    have h1 : (cx1.map Prod.fst)[i]? = some q.1 := by rw [List.getElem?_map, hq]; rfl
    rw [hf, List.getElem?_map] at h1
    cases hq0 : cx[i]? with
    | none => rw [hq0] at h1; cases h1
    | some q0 => rw [hq0] at h1; exact ⟨q0, rfl, Option.some.inj h1⟩
  have inX : ∀ {j : Nat} {q : Nat × va_E}, X[j]? = some q → (X ++ tail)[j]? = some q := fun h => by
    rw [List.getElem?_append_left (List.getElem?_eq_some_iff.mp h).1]; exact h
  have inT : ∀ {j : Nat} {q : Nat × va_E}, tail[j]? = some q → (X ++ tail)[X.length + j]? = some q := fun h => by
    rw [List.getElem?_append_right (Nat.le_add_right _ _), Nat.add_sub_cancel_left]; exact h
  have in1 : ∀ {j : Nat} {q : Nat × va_E}, cx1[j]? = some q → (cx1 ++ tail1)[j]? = some q := fun h => by
    rw [List.getElem?_append_left (List.getElem?_eq_some_iff.mp h).1]; exact h
  have in2 : ∀ {j : Nat} {q : Nat × va_E}, tail1[j]? = some q → (cx1 ++ tail1)[cx1.length + j]? = some q := fun h => by
    rw [List.getElem?_append_right (Nat.le_add_right _ _), Nat.add_sub_cancel_left]; exact h
  -- an old cell of X that isn't handed over is none of the callee's
  have apart : ∀ (j : Nat) (q : Nat × va_E), X[j]? = some q → j ∉ isC → q.1 < H.size ∧ ¬ va_A (cx ++ tail) H.size q.1 := by
    intro j q hq hj
    have hlt := (hP j q (inX hq)).lt
    refine ⟨hlt, fun hA => ?_⟩
    rcases hA with ⟨i, e, h3⟩ | h3
    · rcases Nat.lt_or_ge i cx.length with hi | hi
      · rw [List.getElem?_append_left hi] at h3
        have hi2 : i < isC.length := by rw [hl0]; exact hi
        obtain ⟨q0, g1, g2⟩ := hat i (isC[i]) (List.getElem?_eq_getElem hi2)
        cases g1.symm.trans h3
        have := hD.1 j (isC[i]) q (q.1, e) (inX hq) (inX g2) rfl
        exact hj (by rw [this]; exact List.getElem_mem hi2)
      · rw [List.getElem?_append_right hi] at h3
        have := hD.1 j _ q (q.1, e) (inX hq) (inT h3) rfl
        have hj2 : j < X.length := (List.getElem?_eq_some_iff.mp hq).1
        omega
    · exact absurd hlt (Nat.not_lt.mpr h3)
  have key : ∀ (j : Nat) (q : Nat × va_E), (putW X isC cx1)[j]? = some q → va_at k.1 vwCl q H1 ∧ (∃ q0, X[j]? = some q0 ∧ q0.1 = q.1) ∧ ((∃ i : Nat, isC[i]? = some j ∧ cx1[i]? = some q) ∨ (j ∉ isC ∧ X[j]? = some q)) := by
    intro j q h
    rcases putW_at isC cx1 X (hl0.trans hl1.symm) j q h with ⟨i, h1, h2⟩ | ⟨h1, h2⟩
    · obtain ⟨q0, g1, g2⟩ := hat i j h1
      obtain ⟨q0', g3, g4⟩ := hfst i q h2
      cases g1.symm.trans g3
      exact ⟨hP1 i q (in1 h2), ⟨q0, g2, g4⟩, Or.inl ⟨i, h1, h2⟩⟩
    · exact ⟨(hP j q (inX h2)).kept (hk q.1 (apart j q h2 h1).1 (apart j q h2 h1).2), ⟨q, h2, rfl⟩, Or.inr ⟨h1, h2⟩⟩
  refine ⟨va_P.app (fun j q h => (key j q h).1) (fun j q h => hP1 _ q (in2 h)), va_D.app ⟨fun i j x y hx hy hxy => ?_, fun j q h => ?_⟩ ⟨fun i j x y hx hy hxy => ?_, fun j q h => ?_⟩ (fun i j x y hx hy hxy => ?_)⟩
  · obtain ⟨-, ⟨x0, g1, g2⟩, -⟩ := key i x hx
    obtain ⟨-, ⟨y0, g3, g4⟩, -⟩ := key j y hy
    exact hD.1 i j x0 y0 (inX g1) (inX g3) (by rw [g2, g4]; exact hxy)
  · obtain ⟨-, ⟨x0, g1, g2⟩, -⟩ := key j q h
    rw [← g2]
    exact hD.2 j x0 (inX g1)
  · have := hD1.1 _ _ x y (in2 hx) (in2 hy) hxy
    omega
  · exact hfree _ (hD1.2 _ q (in2 h))
  · obtain ⟨-, -, hcase⟩ := key i x hx
    rcases hcase with ⟨i2, h1, h2⟩ | ⟨h1, h2⟩
    · have := hD1.1 _ _ x y (in1 h2) (in2 hy) hxy
      have h3 : i2 < cx1.length := (List.getElem?_eq_some_iff.mp h2).1
      omega
    · exact (apart i x h2 h1).2 (by rw [hxy]; exact hD1.2 _ y (in2 hy))
theorem pre_callG {p : Program} {s : State} {m : MethodId} {c : Code} {H : Heap} {locs : List Loc} {cc : ByteArray} {nL : Nat} {k : KT} {A : Nat → Prop} {own : String} {X tail cx : va_W} (E : E0 p s m c cc nL own k A) (hW : WD k A s.heap (X ++ tail) H locs) (hA : ∀ q : Nat, s.heap.size ≤ q → A q) (isC : List Nat) (hC : isC.map (fun i => X[i]?) = cx.map some) (hnd : va_nd isC = true) :
    (∀ q, va_A (cx ++ tail) H.size q → A q) ∧ ∀ U : State, U.heap = H → s.WarmedH U.vm → Bpre k (cx ++ tail) H.size U := by
  have hin : ∀ (i : Nat) (q : Nat × va_E), (cx ++ tail)[i]? = some q → ∃ j, (X ++ tail)[j]? = some q ∧ ((i < cx.length ∧ isC[i]? = some j) ∨ (cx.length ≤ i ∧ j = X.length + (i - cx.length))) := by
    intro i q h
    rcases Nat.lt_or_ge i cx.length with hi | hi
    · rw [List.getElem?_append_left hi] at h
      have h1 : (isC.map (fun i => X[i]?))[i]? = some (some q) := by rw [hC, List.getElem?_map, h]; rfl
      rw [List.getElem?_map] at h1
      cases hq : isC[i]? with
      | none => rw [hq] at h1; cases h1
      | some j =>
        rw [hq] at h1
        have h2 : X[j]? = some q := Option.some.inj h1
        exact ⟨j, by rw [List.getElem?_append_left (List.getElem?_eq_some_iff.mp h2).1]; exact h2, Or.inl ⟨hi, rfl⟩⟩
    · rw [List.getElem?_append_right hi] at h
      exact ⟨X.length + (i - cx.length), by rw [List.getElem?_append_right (Nat.le_add_right _ _), Nat.add_sub_cancel_left]; exact h, Or.inr ⟨hi, rfl⟩⟩
  have hfree : ∀ q, va_A (cx ++ tail) H.size q → A q := by
    intro q h
    rcases h with ⟨i, e, h⟩ | h
    · obtain ⟨j, hj, -⟩ := hin i (q, e) h
      exact hW.2.1.2 j (q, e) hj
    · exact hA q (Nat.le_trans hW.2.2.1 h)
  have hX : ∀ (i j : Nat), isC[i]? = some j → j < X.length := by
    intro i j hi
    have h1 : (isC.map (fun i => X[i]?))[i]? = some (X[j]?) := by rw [List.getElem?_map, hi]; rfl
    rw [hC, List.getElem?_map] at h1
    cases hq : cx[i]? with
    | none => rw [hq] at h1; cases h1
    | some q0 => rw [hq] at h1; exact (List.getElem?_eq_some_iff.mp (Option.some.inj h1).symm).1
  refine ⟨hfree, fun U hU hw => ⟨by rw [hU], ?_, va_K.moved hw.alike E.hK, TB.warm hw E.tb, E.ok, ?_, ?_⟩⟩
  · rw [hU]
    intro i q h
    obtain ⟨j, hj, -⟩ := hin i q h
    exact hW.1 j q hj
  · rw [hU]
    exact E.ok.2.2.1 A _ U H hfree (E.ok.2.1 A U s.heap H hW.2.2.2.1 (E.ok.1 A s U s.heap hw E.sf))
  · refine ⟨fun i i2 x y hx hy hxy => ?_, fun _ _ _ => trivial⟩
    obtain ⟨j, hj, hc⟩ := hin i x hx
    obtain ⟨j2, hj2, hc2⟩ := hin i2 y hy
    have hjj := hW.2.1.1 j j2 x y hj hj2 hxy
    subst hjj
    rcases hc with ⟨a1, a2⟩ | ⟨a1, a2⟩ <;> rcases hc2 with ⟨b1, b2⟩ | ⟨b1, b2⟩
    · exact va_nd_inj isC hnd i i2 j a2 b2
    · have := hX i j a2; omega
    · have := hX i2 j b2; omega
    · omega
section KG
variable {p : Program} {l : Launch} {e : Env} {R : Room} {s : State} {m : MethodId} {args : Array Value} {below : List Frame} {meth : Method} {c : Code} {H : Heap} {locs : List Loc} {cells slots : Nat} {Q : State → Prop}
variable {cc : ByteArray} {pc nL : Nat} {ls : Array Slot} {rest : List Value} {k : KT} {A : Nat → Prop} {X tail cx : va_W} {H0 : Heap} {own : String} {a : Nat}
theorem k_callGv {C : String} {index mx n fr mc ms loc : Nat} {y : MethodName} {bytes : ByteArray} {ret : Option FieldType} {S : Type} {cx1 tail1 : S → va_W} {post : S → Prop} {As : List Value} {lv : List (Nat × Value)} {st0 : List Value} {fs : List Value} {T : u_T} {N : Nat}
    (hM : CG l k y bytes mx ret fr mc ms loc (.ref a :: As) (cx ++ tail) (Qv k (fun u => cx1 u ++ tail1 u) post)) (E : E0 p s m c cc nL own k A) (hV : VL own index C y bytes mx ret n) (hdg : decode cc pc = .ok (.invokevirtual index, 3)) (hst : st0 = As.reverse ++ .ref a :: rest) (isC : List Nat) (ci q0 : Nat)
    (hW : WD k A s.heap (X ++ tail) H locs) (hA : ∀ q : Nat, s.heap.size ≤ q → A q) (hl : lv_has ls nL lv) (hn : As.length = n) (hC : isC.map (fun i => X[i]?) = cx.map some) (hc : vwCl[ci]? = some (C, T, N)) (he : (X ++ tail)[q0]? = some (a, .inr (ci, fs))) (hR : fr + 1 ≤ R.frames ∧ 8 + (mx + 11) + loc ≤ R.locals) (hroom : cells + mc ≤ R.cells ∧ slots + ms ≤ R.slots) (hcat : (rest.map fun v => v.category).sum ≤ 8) (hnd : va_nd isC = true) (hf : ∀ u, (cx1 u).map Prod.fst = cx.map Prod.fst) {ws2 : S → va_W} (hws : ∀ u, putW X isC (cx1 u) ++ tail1 u = ws2 u)
    (q : ∀ (u : S) (H1 : Heap) (locs1 : List Loc), post u → WD k A s.heap (ws2 u) H1 locs1 → W p l e R s m args below meth c H1 locs1 (cells + mc) (slots + ms) Q (F0 m (pc + 3) ls rest)) : W p l e R s m args below meth c H locs cells slots Q (F0 m pc ls st0) := by
  subst hst
  obtain ⟨hfree, hpre⟩ := pre_callG E hW hA isC hC hnd
  refine va_callv (va_runV (As := As) (rest := rest) E.fix (hM H.size) (hV.cw E hR) ⟨Bpre.blind, va_recv E.hK hW.1 hc he, fun U hU hw => ⟨rfl, hpre U hU hw⟩⟩ rfl hn hl.1 rfl (lv_room hcat) hdg hroom) hW.2.2 (fun q _ h => hfree q h) hfree (fun u t H1 locs1 ht hvm hp hB hz hk hS => ?_)
  obtain ⟨hP1, hD1⟩ := hB
  rw [ht] at hP1
  obtain ⟨g1, g2⟩ := call_frameG hW.1 hW.2.1 isC hC (hf u) hfree hk hP1 hD1
  rw [hws] at g1 g2
  exact q u H1 locs1 hp ⟨g1, g2, hS⟩
end KG
theorem xr_1 : XRN 179 183 (xName 1) := Or.inl ⟨⟨by decide +kernel, by decide +kernel⟩, List.mem_of_getElem? (i := 761) (by decide +kernel), List.mem_of_getElem? (i := 129) (by decide +kernel), by decide +kernel, by decide +kernel⟩
theorem xr_2 : XRN 234 238 (xName 2) := Or.inl ⟨⟨by decide +kernel, by decide +kernel⟩, List.mem_of_getElem? (i := 941) (by decide +kernel), List.mem_of_getElem? (i := 131) (by decide +kernel), by decide +kernel, by decide +kernel⟩
theorem xr_3 : XRN 278 282 (xName 3) := Or.inl ⟨⟨by decide +kernel, by decide +kernel⟩, List.mem_of_getElem? (i := 1007) (by decide +kernel), List.mem_of_getElem? (i := 132) (by decide +kernel), by decide +kernel, by decide +kernel⟩
theorem xr_4 : XRN 206 210 (xName 4) := Or.inr ⟨rfl, List.mem_of_getElem? (i := 873) (by decide +kernel), List.mem_of_getElem? (i := 130) (by decide +kernel), by decide +kernel, by decide +kernel⟩
/-! whole blocks of a world, by their places -/
theorem blk_at {ws X B Y : va_W} (h : ws = X ++ B ++ Y) {j : Nat} (hj : j < B.length) : ws[X.length + j]? = B[j]? := by
  subst h
  rw [List.append_assoc, List.getElem?_append_right (Nat.le_add_right _ _), Nat.add_sub_cancel_left, List.getElem?_append_left hj]
theorem blk_map {ws : va_W} (X B Y : va_W) (n m : Nat) (h : ws = X ++ B ++ Y) (hn : X.length = n) (hm : B.length = m) : (List.range' n m).map (fun i => ws[i]?) = B.map some := by
  subst hn; subst hm
  apply List.ext_getElem?
  intro j
  rw [List.getElem?_map, List.getElem?_map]
  rcases Nat.lt_or_ge j B.length with hj | hj
  · rw [List.getElem?_range' hj]
    show some (ws[X.length + 1 * j]?) = _
    rw [Nat.one_mul, blk_at h hj, List.getElem?_eq_getElem hj]; rfl
  · rw [List.getElem?_eq_none (by simpa using hj), List.getElem?_eq_none hj]; rfl
theorem putW_app : ∀ (i1 : List Nat) (x1 : va_W) (ws : va_W) (i2 : List Nat) (x2 : va_W), i1.length = x1.length → putW ws (i1 ++ i2) (x1 ++ x2) = putW (putW ws i1 x1) i2 x2 := by
  intro i1
  induction i1 with
  | nil =>
    intro x1 ws i2 x2 h
    cases x1 with
    | nil => cases i2 <;> rfl
    | cons _ _ => simp at h
  | cons i i1 ih =>
    intro x1 ws i2 x2 h
    cases x1 with
    | nil => simp at h
    | cons x x1 => exact ih x1 (ws.set i x) i2 x2 (by simpa using h)
theorem blk_put' : ∀ (B B' X Y : va_W), B'.length = B.length → putW (X ++ B ++ Y) (List.range' X.length B.length) B' = X ++ B' ++ Y := by
  intro B
  induction B with
  | nil =>
    intro B' X Y h
    have : B' = [] := List.length_eq_zero_iff.mp h
    subst this
    rfl
  | cons b B ih =>
    intro B' X Y h
    cases B' with
    | nil => simp at h
    | cons b' B' =>
      have h1 : (X ++ (b :: B) ++ Y).set X.length b' = (X ++ [b']) ++ B ++ Y := by
        rw [List.append_assoc, List.set_append_right _ _ (Nat.le_refl _), Nat.sub_self]
        simp
      have h2 := ih B' (X ++ [b']) Y (by simpa using h)
      rw [List.length_append] at h2
      show putW ((X ++ (b :: B) ++ Y).set X.length b') (List.range' (X.length + 1) B.length) B' = _
      rw [h1]
      have h3 : X ++ [b'] ++ B' ++ Y = X ++ (b' :: B') ++ Y := by simp
      rw [← h3]
      exact h2
theorem blk_put {ws : va_W} (X B Y B' : va_W) (n m : Nat) (h : ws = X ++ B ++ Y) (hl : B'.length = B.length) (hn : X.length = n) (hm : B.length = m) : putW ws (List.range' n m) B' = X ++ B' ++ Y := by
  subst h; subst hn; subst hm
  exact blk_put' B B' X Y hl
theorem app2 {α : Type} {a b c d : List α} (h1 : a = b) (h2 : c = d) : a ++ c = b ++ d := by rw [h1, h2]
theorem xt_181 : ((181, "no such property of a process") : Nat × String) ∈ xTexts := by decide +kernel
theorem xt_189 : ((189, "no such property of a loan") : Nat × String) ∈ xTexts := by decide +kernel
theorem xt_198 : ((198, "no such page") : Nat × String) ∈ xTexts := by decide +kernel
theorem xt_208 : ((208, "no such page of the loan") : Nat × String) ∈ xTexts := by decide +kernel
theorem xt_220 : ((220, "no such property of a claim") : Nat × String) ∈ xTexts := by decide +kernel
theorem xt_229 : ((229, "not so many claims wait") : Nat × String) ∈ xTexts := by decide +kernel
theorem xt_236 : ((236, "no such property of a fine") : Nat × String) ∈ xTexts := by decide +kernel
theorem xt_280 : ((280, "the time would be too great") : Nat × String) ∈ xTexts := by decide +kernel
theorem xt_290 : ((290, "pages or term out of range") : Nat × String) ∈ xTexts := by decide +kernel
theorem xt_292 : ((292, "there are no more claims") : Nat × String) ∈ xTexts := by decide +kernel
theorem xt_301 : ((301, "the claim does not wait") : Nat × String) ∈ xTexts := by decide +kernel
theorem xt_307 : ((307, "the loan has not so many pages") : Nat × String) ∈ xTexts := by decide +kernel
theorem xt_313 : ((313, "ticks out of range") : Nat × String) ∈ xTexts := by decide +kernel
theorem xt_318 : ((318, "the promise cannot be renewed") : Nat × String) ∈ xTexts := by decide +kernel
theorem xt_326 : ((326, "the fine cannot be appealed any more") : Nat × String) ∈ xTexts := by decide +kernel
theorem xt_331 : ((331, "no such order") : Nat × String) ∈ xTexts := by decide +kernel
theorem xt_333 : ((333, "there is nothing to undo") : Nat × String) ∈ xTexts := by decide +kernel
theorem xt_353 : ((353, "no such number of a process") : Nat × String) ∈ xTexts := by decide +kernel
theorem xt_377 : ((377, "no state is saved") : Nat × String) ∈ xTexts := by decide +kernel
theorem xt_379 : ((379, "no such process") : Nat × String) ∈ xTexts := by decide +kernel
theorem xt_381 : ((381, "no such loan") : Nat × String) ∈ xTexts := by decide +kernel
theorem xt_383 : ((383, "no such claim") : Nat × String) ∈ xTexts := by decide +kernel
theorem xt_388 : ((388, "no such fine is known") : Nat × String) ∈ xTexts := by decide +kernel
