/-! the law's helpers: they catch what a call throws -/
def CCH (k : KT) : Prop := ∀ (A : Nat → Prop) (U : State) (H : Heap), k.2.2 A U H → ∀ i j : Nat, 1 ≤ i → i ≤ 4 → 1 ≤ j → j ≤ 4 → i ≠ j → va_Nc (xName i) (xName j) U
def CXW (l : Launch) (k : KT) (y : MethodName) (cc : ByteArray) (mx : Nat) (ret : Option FieldType) (hh : List (Nat × Nat × Nat × Nat)) (fr mc ms loc : Nat) (av : List Value) (W0 : va_W) (Qc : (Nat → Prop) → Array Value → State → Outcome → State → Prop) : Prop :=
  ∀ sz : Nat, vx_Met l y [Cond.codeWith y cc mx ret hh] { frames := fr, cells := mc, slots := ms, locals := loc } (va_Pc av (Bpre k W0 sz)) (Qc (va_A W0 sz)) (fun _ _ _ => False) mc ms (va_A W0 sz)
theorem CXW.ofI {l : Launch} {k : KT} {y : MethodName} {cc : ByteArray} {mx fr mc ms loc : Nat} {ty : FieldType} {hh : List (Nat × Nat × Nat × Nat)} {av : List Value} {W0 : va_W} {S : Type} {W1 : S → va_W} {post : Int32 → S → Prop} (hy : plainName y.cls = true) (hlen : (lg_sl av).length ≤ mx)
    (body : ∀ (p : Program) (e : Env) (s : State) (m : MethodId) (args : Array Value) (below : List Frame) (meth : Method) (c : Code) (A : Nat → Prop) (Q : State → Prop), E0 p s m c cc mx y.cls k A → meth.name = y.name → c.exceptionTable.toList = tableOf hh → WD k A s.heap W0 s.heap [] → (∀ q : Nat, s.heap.size ≤ q → A q) →
      (∀ (v : Int32) (u : S) (H : Heap) (locs : List Loc) (cells slots pc : Nat) (ls : Array Slot), WD k A s.heap (W1 u) H locs → post v u → narrow ty (.int v) = .int v → cells ≤ mc → slots ≤ ms → decode cc pc = .ok (.ireturn, 1) → W p l e { frames := fr, cells := mc, slots := ms, locals := loc } s m args below meth c H locs cells slots Q (F0 m pc ls [.int v])) →
      ∀ ls : Array Slot, lv_has ls mx (lv_args 0 av) → W p l e { frames := fr, cells := mc, slots := ms, locals := loc } s m args below meth c s.heap [] 0 0 Q (F0 m 0 ls [])) : CXW l k y cc mx (some ty) hh fr mc ms loc av W0 (Qi k W1 post) := by
  intro sz
  refine vx_ofWH (cc := cc) (maxL := mx) (ret := some ty) (hh := hh) hy rfl ?_
  intro p e s m args below meth c s₁ B hml hv
  obtain ⟨rfl, hsz, hP, hK, hT, hok, hSF, hD0⟩ := hv
  subst hsz
  have hnm : meth.name = y.name := (name_of_methodNamed B.named B.method).1
  have htab : c.exceptionTable.toList = tableOf hh := vx_table (x := y) B (atoms_spec (ws := [Cond.codeWith y cc mx (some ty) hh]) B.pre _ List.mem_cons_self)
  rw [lg_entry_eq]
  exact body p e s m _ below meth c _ _ ⟨B.exec, B.bytes, hml, findClass_of_methodNamed B.named, hT, hK, hok, hSF⟩ hnm htab ⟨hP, hD0.self, va_S.rf⟩ (fun q h => Or.inr h)
    (fun v u H locs cells slots pc ls hW hp hn h1 h2 hdg => vx_ret (k_ret_i (post := post) ⟨B.exec, B.bytes, hml, findClass_of_methodNamed B.named, hT, hK, hok, hSF⟩ B.returns B.notSynchronized hW hp hn h1 h2 hdg)) _ (lv_entry av hlen)
def SWL (own : String) (index : Nat) (y : MethodName) (bytes : ByteArray) (mx : Nat) (ret : Option FieldType) (hh : List (Nat × Nat × Nat × Nat)) (n : Nat) : Prop :=
  (Cond.methodLink own index y ∈ lw_tbl ∧ Cond.static y ∈ lw_tbl ∧ Cond.initialized y.cls ∈ lw_tbl ∧ Cond.codeWith y bytes mx ret hh ∈ lw_tbl) ∧ y.cls ≠ "java/lang/invoke/MethodHandle" ∧ y.cls ≠ "java/lang/invoke/VarHandle" ∧ (parseMethodDescriptor y.desc).map (fun d => d.parameters.length) = some n
section KHX
variable {p : Program} {l : Launch} {e : Env} {R : Room} {s : State} {m : MethodId} {args : Array Value} {below : List Frame} {meth : Method} {c : Code} {H : Heap} {locs : List Loc} {cells slots : Nat} {Q : State → Prop}
variable {cc : ByteArray} {pc nL : Nat} {ls : Array Slot} {rest : List Value} {k : KT} {A : Nat → Prop} {X tail cx : va_W} {own : String} {a : Nat}
/-- caught by the row of the table that names it; the rows ahead name others -/
theorem k_catch {cd : Nat} {ce : Cell} {q : Addr} {hh : List (Nat × Nat × Nat × Nat)} (hN : CCH k) (E : E0 p s m c cc nL own k A) (htab : c.exceptionTable.toList = tableOf hh) (pre : List (Nat × Nat × Nat × Nat)) (x : Nat × Nat × Nat × Nat) (suf : List (Nat × Nat × Nat × Nat)) (hsplit : hh = pre ++ x :: suf)
    (hpass : ∀ z ∈ pre, z.2.2.2 ≠ 0 ∧ ∃ j : Nat, 1 ≤ j ∧ j ≤ 4 ∧ cd ≠ j ∧ Cond.classLink own z.2.2.2 (xName j) ∈ lw_tbl) (h1 : 1 ≤ cd) (h4 : cd ≤ 4) (hcov : covers ⟨x.1, x.2.1, x.2.2.1, x.2.2.2⟩ pc = true) (h0 : x.2.2.2 ≠ 0)
    (hlink : Cond.classLink own x.2.2.2 (xName cd) ∈ lw_tbl) (hcast : Cond.castable (xName cd) (xName cd) ∈ lw_tbl) (hcell : H[q]? = some ce) (hv : ce.vm = .none) (hcl : s.vm.findClass (xName cd) = some ce.cls)
    (kk : W p l e R s m args below meth c H locs cells slots Q (F0 m x.2.2.1 ls [.ref q])) : vx_W p l e R s m args below meth c H locs cells slots Q (F0 m pc ls rest) q := by
  refine vx_catch (own := own) (name := xName cd) E.ho (tableOf pre) ⟨x.1, x.2.1, x.2.2.1, x.2.2.2⟩ (tableOf suf) ?_ ?_ hcov h0 (E.w hlink rfl) (E.w hcast rfl) hcell hv hcl kk
  · rw [htab, hsplit]
    simp [tableOf]
  · intro z hz
    obtain ⟨y, hy, rfl⟩ := List.mem_map.mp hz
    obtain ⟨g0, j, g1, g2, g3, g4⟩ := hpass y hy
    exact Or.inr ⟨g0, xName j, E.w g4 rfl, hN A s s.heap E.sf cd j h1 h4 g1 g2 g3⟩
theorem k_callXGi {C : String} {index mx n fr mc ms loc : Nat} {y : MethodName} {bytes : ByteArray} {ret : Option FieldType} {S : Type} {cx1 tail1 : S → va_W} {post : Int32 → S → Prop} {px : Nat → S → Prop} {As : List Value} {lv : List (Nat × Value)} {st0 : List Value} {fs : List Value} {T : u_T} {N : Nat}
    (hM : CX l k y bytes mx ret fr mc ms loc (.ref a :: As) (cx ++ tail) (Qi k (fun u => cx1 u ++ tail1 u) post) (Xq k (fun u => cx1 u ++ tail1 u) px)) (E : E0 p s m c cc nL own k A) (hV : VL own index C y bytes mx ret n) (hdg : decode cc pc = .ok (.invokevirtual index, 3)) (hst : st0 = As.reverse ++ .ref a :: rest) (isC : List Nat) (ci q0 : Nat)
    (hW : WD k A s.heap (X ++ tail) H locs) (hA : ∀ q : Nat, s.heap.size ≤ q → A q) (hl : lv_has ls nL lv) (hn : As.length = n) (hC : isC.map (fun i => X[i]?) = cx.map some) (hc : vwCl[ci]? = some (C, T, N)) (he : (X ++ tail)[q0]? = some (a, .inr (ci, fs))) (hR : fr + 1 ≤ R.frames ∧ 8 + (mx + 11) + loc ≤ R.locals) (hroom : cells + mc ≤ R.cells ∧ slots + ms ≤ R.slots) (hcat : (rest.map fun v => v.category).sum ≤ 8) (hnd : va_nd isC = true) (hf : ∀ u, (cx1 u).map Prod.fst = cx.map Prod.fst) {ws2 : S → va_W} (hws : ∀ u, putW X isC (cx1 u) ++ tail1 u = ws2 u)
    (qx : ∀ (cd : Nat) (u : S) (ce : Cell) (q9 : Addr) (H1 : Heap) (locs1 : List Loc), px cd u → WD k A s.heap (ws2 u) H1 locs1 → H1[q9]? = some ce → ce.vm = .none → s.vm.findClass (xName cd) = some ce.cls → vx_W p l e R s m args below meth c H1 locs1 (cells + mc) (slots + ms) Q (F0 m pc ls rest) q9)
    (q : ∀ (r : Int32) (u : S) (H1 : Heap) (locs1 : List Loc), post r u → WD k A s.heap (ws2 u) H1 locs1 → W p l e R s m args below meth c H1 locs1 (cells + mc) (slots + ms) Q (F0 m (pc + 3) ls (.int r :: rest))) : W p l e R s m args below meth c H locs cells slots Q (F0 m pc ls st0) := by
  subst hst
  obtain ⟨hfree, hpre⟩ := pre_callG E hW hA isC hC hnd
  refine vx_calli (vx_runV (As := As) (rest := rest) E.fix (hM H.size) (hV.cw E hR) ⟨Bpre.blind, va_recv E.hK hW.1 hc he, fun U hU hw => ⟨rfl, hpre U hU hw⟩⟩ rfl hn hl.1 rfl (lv_room hcat) hdg hroom) hW.2.2 (fun q _ h => hfree q h) hfree (fun q _ h => hfree q h) (fun E9 ce q9 u t H1 locs1 ht hvm hp hB hz hk hS hce hcv hcl => ?_) (fun r u t H1 locs1 ht hvm hp hB hz hk hS => ?_)
  · obtain ⟨rfl, hP1, hD1⟩ := hB
    rw [ht] at hP1
    obtain ⟨g1, g2⟩ := call_frameG hW.1 hW.2.1 isC hC (hf u.2) hfree hk hP1 hD1
    rw [hws] at g1 g2
    exact qx u.1 u.2 ce q9 H1 locs1 hp ⟨g1, g2, hS⟩ hce hcv hcl
  · obtain ⟨hP1, hD1⟩ := hB
    rw [ht] at hP1
    obtain ⟨g1, g2⟩ := call_frameG hW.1 hW.2.1 isC hC (hf u) hfree hk hP1 hD1
    rw [hws] at g1 g2
    exact q r u H1 locs1 hp ⟨g1, g2, hS⟩
theorem SWL.cw {index mx n fr mc ms loc : Nat} {y : MethodName} {bytes : ByteArray} {ret : Option FieldType} {hh : List (Nat × Nat × Nat × Nat)} (h : SWL own index y bytes mx ret hh n) (E : E0 p s m c cc nL own k A) (hR : fr + 1 ≤ R.frames ∧ 8 + (mx + 11) + loc ≤ R.locals) (hg : goodWord (Cond.codeWith y bytes mx ret hh) = true) :
    vx_CSW R s args own index y bytes mx ret hh [Cond.codeWith y bytes mx ret hh] { frames := fr, cells := mc, slots := ms, locals := loc } mc ms n := by
  obtain ⟨⟨h1, h2, h4, h5⟩, hd⟩ := h
  refine vx_cwSW (Ts := lw_tbl.filter tbOK) n E.fix.2.2.2.2 (fun w hw => ?_) rfl rfl rfl hd hR
  rcases List.mem_append.mp hw with hw | hw
  · rcases List.mem_cons.mp hw with rfl | hw
    · exact ⟨List.mem_filter.mpr ⟨h1, rfl⟩, Or.inl rfl⟩
    · rcases List.mem_cons.mp hw with rfl | hw
      · exact ⟨List.mem_filter.mpr ⟨h2, rfl⟩, Or.inl rfl⟩
      · rw [List.mem_singleton.mp hw]
        exact ⟨List.mem_filter.mpr ⟨h4, rfl⟩, Or.inl rfl⟩
  · rw [List.mem_singleton.mp hw]
    exact ⟨List.mem_filter.mpr ⟨h5, hg⟩, good_of_word hg⟩
end KHX
