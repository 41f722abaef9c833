/-! a method of a class that has rows in the table of natives, though not for this method (Math): its body is walked as any other's -/
section PLF
variable {l : Launch}
theorem Met.ofF {y : MethodName} {ws ws' : List Cond} {rm : Room} {Pc : Array Value → State → Prop} {Qc : Array Value → State → Outcome → State → Prop} {mc ms : Nat} {free : Addr → Prop} {cc : ByteArray} {maxL : Nat} {ret : Option FieldType}
    (hy : plainFor y = true) (hw : ws = Cond.code y cc maxL ret :: ws')
    (body : ∀ p e s m args below meth c s₁, BodyLoose p l y (headSpec ws rm) cc maxL ret e s m args below meth c s₁ → c.maxLocals = maxL → Pc args s →
      W p l e (headSpec ws rm).room s m args below meth c s.heap [] 0 0 (MQ below Qc args s mc ms free) (entryFrame m args maxL)) : Met l y ws rm Pc Qc mc ms free := by
  refine MetFree.of_bodySF (code := cc) (maxLocals := maxL) (ret := ret) hy ?_ ?_
  · intro args s m h hn
    obtain ⟨meth, c, h1, h2, h3, h4, h5, h6, -, -⟩ := Cond.code_spec hn (atoms_spec (ws := ws) h _ (by rw [hw]; exact List.mem_cons_self))
    exact ⟨meth, c, h1, h2, h3, h4, h5, h6⟩
  · intro p e s m args below meth c s₁ B hml hP _
    have hh0 : s₁.heap = s.heap := by rw [B.state]; rfl
    obtain ⟨t, a1, o, b1, b2, b3⟩ := body p e s m args below meth c s₁ B hml hP s₁ hh0 (Stand.of_body B)
    exact ⟨t, o, a1, b1, b2, ⟨b3.1, b3.2⟩⟩
theorem CG.ofF {k : KT} {y : MethodName} {cc : ByteArray} {mx fr mc ms loc : Nat} {ret : Option FieldType} {av : List Value} {W0 : va_W} {Qc : (Nat → Prop) → Array Value → State → Outcome → State → Prop} (hy : plainFor y = true) (hlen : (lg_sl av).length ≤ mx)
    (body : ∀ (p : Program) (e : Env) (s : State) (m : MethodId) (args : Array Value) (below : List Frame) (meth : Method) (c : Code) (A : Nat → Prop), E0 p s m c cc mx y.cls k A → meth.sig.returnType = ret → meth.locks = false → meth.name = y.name → WD k A s.heap W0 s.heap [] → (∀ q : Nat, s.heap.size ≤ q → A q) → ∀ ls : Array Slot, lv_has ls mx (lv_args 0 av) →
      W p l e { frames := fr, cells := mc, slots := ms, locals := loc } s m args below meth c s.heap [] 0 0 (MQ below (Qc A) args s mc ms A) (F0 m 0 ls [])) : CG l k y cc mx ret fr mc ms loc av W0 Qc := by
  intro sz
  refine Met.ofF (cc := cc) (maxL := mx) (ret := ret) hy rfl ?_
  intro p e s m args below meth c s₁ B hml hv
  obtain ⟨rfl, hsz, hP, hK, hT, hok, hSF, hD0⟩ := hv
  subst hsz
  have hnm : meth.name = y.name := (name_of_methodNamed B.named B.method).1
  rw [lg_entry_eq]
  exact body p e s m _ below meth c _ ⟨B.exec, B.bytes, hml, findClass_of_methodNamed B.named, hT, hK, hok, hSF⟩ B.returns B.notSynchronized hnm ⟨hP, hD0.self, va_S.rf⟩ (fun q h => Or.inr h) _ (lv_entry av hlen)
theorem CG.ofIF {k : KT} {y : MethodName} {cc : ByteArray} {mx fr mc ms loc : Nat} {ty : FieldType} {av : List Value} {W0 : va_W} {S : Type} {W1 : S → va_W} {post : Int32 → S → Prop} (hy : plainFor y = true) (hlen : (lg_sl av).length ≤ mx)
    (body : ∀ (p : Program) (e : Env) (s : State) (m : MethodId) (args : Array Value) (below : List Frame) (meth : Method) (c : Code) (A : Nat → Prop) (Q : State → Prop), E0 p s m c cc mx y.cls k A → meth.name = y.name → WD k A s.heap W0 s.heap [] → (∀ q : Nat, s.heap.size ≤ q → A q) →
      (∀ (v : Int32) (u : S) (H : Heap) (locs : List Loc) (cells slots pc : Nat) (ls : Array Slot), WD k A s.heap (W1 u) H locs → post v u → narrow ty (.int v) = .int v → cells ≤ mc → slots ≤ ms → decode cc pc = .ok (.ireturn, 1) → W p l e { frames := fr, cells := mc, slots := ms, locals := loc } s m args below meth c H locs cells slots Q (F0 m pc ls [.int v])) →
      ∀ ls : Array Slot, lv_has ls mx (lv_args 0 av) → W p l e { frames := fr, cells := mc, slots := ms, locals := loc } s m args below meth c s.heap [] 0 0 Q (F0 m 0 ls [])) : CG l k y cc mx (some ty) fr mc ms loc av W0 (Qi k W1 post) :=
  CG.ofF hy hlen (fun p e s m args below meth c A E hr hlk hnm hW hA ls hl => body p e s m args below meth c A _ E hnm hW hA (fun v u H locs cells slots pc ls hW hp hn h1 h2 hdg => k_ret_i E hr hlk hW hp hn h1 h2 hdg) ls hl)
end PLF

theorem dJ9_floorMod_7cf53_0 : decode cJ9_floorMod_7cf53 0 = .ok (.iload_n 0, 1) := by decide +kernel
theorem dJ9_floorMod_7cf53_1 : decode cJ9_floorMod_7cf53 1 = .ok (.iload_n 1, 1) := by decide +kernel
theorem dJ9_floorMod_7cf53_2 : decode cJ9_floorMod_7cf53 2 = .ok (.irem, 1) := by decide +kernel
theorem dJ9_floorMod_7cf53_3 : decode cJ9_floorMod_7cf53 3 = .ok (.istore_n 2, 1) := by decide +kernel
theorem dJ9_floorMod_7cf53_4 : decode cJ9_floorMod_7cf53 4 = .ok (.iload_n 0, 1) := by decide +kernel
theorem dJ9_floorMod_7cf53_5 : decode cJ9_floorMod_7cf53 5 = .ok (.iload_n 1, 1) := by decide +kernel
theorem dJ9_floorMod_7cf53_6 : decode cJ9_floorMod_7cf53 6 = .ok (.ixor, 1) := by decide +kernel
theorem dJ9_floorMod_7cf53_7 : decode cJ9_floorMod_7cf53 7 = .ok (.ifCond .ge 11, 3) := by decide +kernel
theorem dJ9_floorMod_7cf53_10 : decode cJ9_floorMod_7cf53 10 = .ok (.iload_n 2, 1) := by decide +kernel
theorem dJ9_floorMod_7cf53_11 : decode cJ9_floorMod_7cf53 11 = .ok (.ifCond .eq 7, 3) := by decide +kernel
theorem dJ9_floorMod_7cf53_14 : decode cJ9_floorMod_7cf53 14 = .ok (.iload_n 2, 1) := by decide +kernel
theorem dJ9_floorMod_7cf53_15 : decode cJ9_floorMod_7cf53 15 = .ok (.iload_n 1, 1) := by decide +kernel
theorem dJ9_floorMod_7cf53_16 : decode cJ9_floorMod_7cf53 16 = .ok (.iadd, 1) := by decide +kernel
theorem dJ9_floorMod_7cf53_17 : decode cJ9_floorMod_7cf53 17 = .ok (.ireturn, 1) := by decide +kernel
theorem dJ9_floorMod_7cf53_18 : decode cJ9_floorMod_7cf53 18 = .ok (.iload_n 2, 1) := by decide +kernel
theorem dJ9_floorMod_7cf53_19 : decode cJ9_floorMod_7cf53 19 = .ok (.ireturn, 1) := by decide +kernel
def f_J9_floorMod_7cf53 (n : Nat) (v0_0 : Int32) (v1_0 : Int32) : Option (Int32) :=
  oN (v1_0 = 0) (
  Let (rm32 v0_0 v1_0) (fun v2_1 : Int32 =>
  if 0 ≤ (v0_0 ^^^ v1_0) then (
  some v2_1) else (
  if v2_1 = 0 then (
  some v2_1) else (
  some (v2_1 + v1_0)))))
set_option maxHeartbeats 4000000 in
set_option maxRecDepth 100000 in
theorem c_J9_floorMod_7cf53 (n : Nat) (l : Launch) (k : KT)  (v0_0 : Int32) (v1_0 : Int32) (res : (Int32)) (hf : f_J9_floorMod_7cf53 n v0_0 v1_0 = some res) : CG l k yJ9_floorMod_7cf53 cJ9_floorMod_7cf53 3 (some .int) 0 0 0 0 [.int v0_0, .int v1_0] ([]) (Qi k (fun u : Unit => []) (fun (r : Int32) (u : Unit) => res = r)) := by
  refine CG.ofIF (by decide +kernel) (Nat.le_of_ble_eq_true rfl) (fun p e s m args below meth c A Q E hnm hW hA hret ls hl => ?_)
  have hl : lv_has ls 3 [(0, .int v0_0), (1, .int v1_0)] := hl
  unfold f_J9_floorMod_7cf53 at hf
  refine k_iload_n E hl 0 dJ9_floorMod_7cf53_0 rfl ?_
  refine k_iload_n E hl 1 dJ9_floorMod_7cf53_1 rfl ?_
  obtain ⟨hz, hf⟩ := oG hf
  refine lv_irem E.hx E.hb dJ9_floorMod_7cf53_2 hz ?_
  obtain ⟨v2_1, ev2_1, hf⟩ := oL hf
  refine k_istore_n (lv' := [(2, .int v2_1), (0, .int v0_0), (1, .int v1_0)]) E ev2_1 hl dJ9_floorMod_7cf53_3 rfl (by decide) rfl (fun ls hl => ?_)
  refine k_iload_n E hl 1 dJ9_floorMod_7cf53_4 rfl ?_
  refine k_iload_n E hl 2 dJ9_floorMod_7cf53_5 rfl ?_
  refine lv_ixor E.hx E.hb dJ9_floorMod_7cf53_6 ?_
  refine lv_if_ge (tgt := 18) E.hx E.hb dJ9_floorMod_7cf53_7 (by decide) (fun hc => ?_) (fun hc => ?_)
  · have hf := oT hc hf
    refine k_iload_n E hl 0 dJ9_floorMod_7cf53_18 rfl ?_
    exact hret _ () _ _ _ _ _ _ hW (Option.some.inj hf).symm rfl (by decide) (by decide) dJ9_floorMod_7cf53_19
  · have hf := oF hc hf
    refine k_iload_n E hl 0 dJ9_floorMod_7cf53_10 rfl ?_
    refine lv_if_eq (tgt := 18) E.hx E.hb dJ9_floorMod_7cf53_11 (by decide) (fun hc => ?_) (fun hc => ?_)
    · have hf := oT hc hf
      refine k_iload_n E hl 0 dJ9_floorMod_7cf53_18 rfl ?_
      exact hret _ () _ _ _ _ _ _ hW (Option.some.inj hf).symm rfl (by decide) (by decide) dJ9_floorMod_7cf53_19
    · have hf := oF hc hf
      refine k_iload_n E hl 0 dJ9_floorMod_7cf53_14 rfl ?_
      refine k_iload_n E hl 2 dJ9_floorMod_7cf53_15 rfl ?_
      refine lv_iadd E.hx E.hb dJ9_floorMod_7cf53_16 ?_
      exact hret _ () _ _ _ _ _ _ hW (Option.some.inj hf).symm rfl (by decide) (by decide) dJ9_floorMod_7cf53_17
theorem tm_540 : (Jvm.Cond.methodLink "MemoryCourt$Past" (29 : Nat) ({ cls := "java/lang/Math", name := "floorMod", desc := "(II)I" } : Jvm.MethodName)) ∈ lw_tbl := List.mem_of_getElem? (i := 540) (by decide +kernel)
theorem tm_541 : (Jvm.Cond.static ({ cls := "java/lang/Math", name := "floorMod", desc := "(II)I" } : Jvm.MethodName)) ∈ lw_tbl := List.mem_of_getElem? (i := 541) (by decide +kernel)
theorem tm_542 : (Jvm.Cond.code ({ cls := "java/lang/Math", name := "floorMod", desc := "(II)I" } : Jvm.MethodName) prog_24_method_50_code (3 : Nat) (Option.some Jvm.ClassFile.FieldType.int)) ∈ lw_tbl := List.mem_of_getElem? (i := 542) (by decide +kernel)
theorem tm_525 : (Jvm.Cond.methodLink "MemoryCourt$Past" (25 : Nat) ({ cls := "MemoryCourt$Court", name := "copyFrom", desc := "(LMemoryCourt$Court;)V" } : Jvm.MethodName)) ∈ lw_tbl := List.mem_of_getElem? (i := 525) (by decide +kernel)
theorem tm_524 : (Jvm.Cond.methodLinkNest "MemoryCourt$Past" (24 : Nat) ({ cls := "MemoryCourt$Court", name := "<init>", desc := "()V" } : Jvm.MethodName) "MemoryCourt") ∈ lw_tbl := List.mem_of_getElem? (i := 524) (by decide +kernel)
theorem tm_543 : (Jvm.Cond.methodLink "MemoryCourt$Past" (35 : Nat) ({ cls := "java/lang/Math", name := "min", desc := "(II)I" } : Jvm.MethodName)) ∈ lw_tbl := List.mem_of_getElem? (i := 543) (by decide +kernel)
theorem gf_X3_11 {p : Program} {l : Launch} {e : Env} {R : Room} {s : State} {m : MethodId} {args : Array Value} {below : List Frame} {meth : Method} {c : Code} {H : Heap} {locs : List Loc} {cells slots : Nat} {Q : State → Prop} {cc : ByteArray} {pc nL : Nat} {ls : Array Slot} {rest : List Value} {k : KT} {A : Nat → Prop} {ws : va_W} {H0 : Heap} {a : Nat} (E : E0 p s m c cc nL RX3 k A) (hW : WD k A H0 ws H locs) (q0 : Nat) {fs : List Value} (he : ws[q0]? = some (a, .inr (4, fs))) {v : Value} (hv : fs[0]? = some v) (hdg : decode cc pc = .ok (.getfield 11, 3)) (q : W p l e R s m args below meth c H locs cells slots Q (F0 m (pc + 3) ls (v :: rest))) : W p l e R s m args below meth c H locs cells slots Q (F0 m pc ls (.ref a :: rest)) := va_get (C := RX3) (T := TX3) (N := 3) (ci := 4) E.hx E.hb (Ts := wsX30) (fun w hw => E.w (inX3 w hw) (tbl_laysX3 w hw)) (fun _ h => h) E.ho E.hK hW.1 q0 he rfl 0 (by decide) (E.w tm_276 rfl) (fun _ h => h) hv hdg q
theorem gf_X3_17 {p : Program} {l : Launch} {e : Env} {R : Room} {s : State} {m : MethodId} {args : Array Value} {below : List Frame} {meth : Method} {c : Code} {H : Heap} {locs : List Loc} {cells slots : Nat} {Q : State → Prop} {cc : ByteArray} {pc nL : Nat} {ls : Array Slot} {rest : List Value} {k : KT} {A : Nat → Prop} {ws : va_W} {H0 : Heap} {a : Nat} (E : E0 p s m c cc nL RX3 k A) (hW : WD k A H0 ws H locs) (q0 : Nat) {fs : List Value} (he : ws[q0]? = some (a, .inr (4, fs))) {v : Value} (hv : fs[1]? = some v) (hdg : decode cc pc = .ok (.getfield 17, 3)) (q : W p l e R s m args below meth c H locs cells slots Q (F0 m (pc + 3) ls (v :: rest))) : W p l e R s m args below meth c H locs cells slots Q (F0 m pc ls (.ref a :: rest)) := va_get (C := RX3) (T := TX3) (N := 3) (ci := 4) E.hx E.hb (Ts := wsX30) (fun w hw => E.w (inX3 w hw) (tbl_laysX3 w hw)) (fun _ h => h) E.ho E.hK hW.1 q0 he rfl 1 (by decide) (E.w tm_277 rfl) (fun _ h => h) hv hdg q
theorem gf_X3_21 {p : Program} {l : Launch} {e : Env} {R : Room} {s : State} {m : MethodId} {args : Array Value} {below : List Frame} {meth : Method} {c : Code} {H : Heap} {locs : List Loc} {cells slots : Nat} {Q : State → Prop} {cc : ByteArray} {pc nL : Nat} {ls : Array Slot} {rest : List Value} {k : KT} {A : Nat → Prop} {ws : va_W} {H0 : Heap} {a : Nat} (E : E0 p s m c cc nL RX3 k A) (hW : WD k A H0 ws H locs) (q0 : Nat) {fs : List Value} (he : ws[q0]? = some (a, .inr (4, fs))) {v : Value} (hv : fs[2]? = some v) (hdg : decode cc pc = .ok (.getfield 21, 3)) (q : W p l e R s m args below meth c H locs cells slots Q (F0 m (pc + 3) ls (v :: rest))) : W p l e R s m args below meth c H locs cells slots Q (F0 m pc ls (.ref a :: rest)) := va_get (C := RX3) (T := TX3) (N := 3) (ci := 4) E.hx E.hb (Ts := wsX30) (fun w hw => E.w (inX3 w hw) (tbl_laysX3 w hw)) (fun _ h => h) E.ho E.hK hW.1 q0 he rfl 2 (by decide) (E.w tm_278 rfl) (fun _ h => h) hv hdg q
theorem gf_X8_54 {p : Program} {l : Launch} {e : Env} {R : Room} {s : State} {m : MethodId} {args : Array Value} {below : List Frame} {meth : Method} {c : Code} {H : Heap} {locs : List Loc} {cells slots : Nat} {Q : State → Prop} {cc : ByteArray} {pc nL : Nat} {ls : Array Slot} {rest : List Value} {k : KT} {A : Nat → Prop} {ws : va_W} {H0 : Heap} {a : Nat} (E : E0 p s m c cc nL RX8 k A) (hW : WD k A H0 ws H locs) (q0 : Nat) {fs : List Value} (he : ws[q0]? = some (a, .inr (8, fs))) {v : Value} (hv : fs[7]? = some v) (hdg : decode cc pc = .ok (.getfield 54, 3)) (q : W p l e R s m args below meth c H locs cells slots Q (F0 m (pc + 3) ls (v :: rest))) : W p l e R s m args below meth c H locs cells slots Q (F0 m pc ls (.ref a :: rest)) := va_get (C := RX8) (T := TX8) (N := 9) (ci := 8) E.hx E.hb (Ts := wsX80) (fun w hw => E.w (inX8 w hw) (tbl_laysX8 w hw)) (fun _ h => h) E.ho E.hK hW.1 q0 he rfl 7 (by decide) (E.w tm_324 rfl) (fun _ h => h) hv hdg q
theorem gf_X8_57 {p : Program} {l : Launch} {e : Env} {R : Room} {s : State} {m : MethodId} {args : Array Value} {below : List Frame} {meth : Method} {c : Code} {H : Heap} {locs : List Loc} {cells slots : Nat} {Q : State → Prop} {cc : ByteArray} {pc nL : Nat} {ls : Array Slot} {rest : List Value} {k : KT} {A : Nat → Prop} {ws : va_W} {H0 : Heap} {a : Nat} (E : E0 p s m c cc nL RX8 k A) (hW : WD k A H0 ws H locs) (q0 : Nat) {fs : List Value} (he : ws[q0]? = some (a, .inr (8, fs))) {v : Value} (hv : fs[8]? = some v) (hdg : decode cc pc = .ok (.getfield 57, 3)) (q : W p l e R s m args below meth c H locs cells slots Q (F0 m (pc + 3) ls (v :: rest))) : W p l e R s m args below meth c H locs cells slots Q (F0 m pc ls (.ref a :: rest)) := va_get (C := RX8) (T := TX8) (N := 9) (ci := 8) E.hx E.hb (Ts := wsX80) (fun w hw => E.w (inX8 w hw) (tbl_laysX8 w hw)) (fun _ h => h) E.ho E.hK hW.1 q0 he rfl 8 (by decide) (E.w tm_325 rfl) (fun _ h => h) hv hdg q
theorem nw_X3_9 {p : Program} {l : Launch} {e : Env} {R : Room} {s : State} {m : MethodId} {args : Array Value} {below : List Frame} {meth : Method} {c : Code} {H : Heap} {locs : List Loc} {cells slots : Nat} {Q : State → Prop} {cc : ByteArray} {pc nL : Nat} {ls : Array Slot} {rest : List Value} {k : KT} {A : Nat → Prop} {ws : va_W} (E : E0 p s m c cc nL RX3 k A) (hW : WD k A s.heap ws H locs) (hA : ∀ q : Nat, s.heap.size ≤ q → A q) (hc : cells + 1 ≤ R.cells) (hs : slots + 16 ≤ R.slots) (hdg : decode cc pc = .ok (.new 9, 3)) (q : ∀ (x : Nat) (H1 : Heap), WD k A s.heap (ws ++ [(x, .inr (3, [.int 0, .int 0, .int 0, .int 0, .int 0, .int 0, .int 0, .int 0, .int 0, .null, .null, .null, .null, .null, .null, .null]))]) H1 locs → W p l e R s m args below meth c H1 locs (cells + 1) (slots + 16) Q (F0 m (pc + 3) ls (.ref x :: rest))) : W p l e R s m args below meth c H locs cells slots Q (F0 m pc ls rest) :=
  va_new (ci := 3) (fs := [.int 0, .int 0, .int 0, .int 0, .int 0, .int 0, .int 0, .int 0, .int 0, .null, .null, .null, .null, .null, .null, .null]) (C := RX2) (T := TX2) (N := 16) (Ts := wsX20) E.hx E.hb (fun w hw => E.w (inX2 w hw) (tbl_laysX2 w hw)) (fun _ h => h) tyX2 tyX2_ok E.ho (E.w tm_274 rfl) (E.w tm_148 rfl) (E.w tm_38 rfl) E.hK hW.1 hW.2.1 hW.2.2 hA rfl (fun j hj => match j, hj with | 0, _ => rfl | 1, _ => rfl | 2, _ => rfl | 3, _ => rfl | 4, _ => rfl | 5, _ => rfl | 6, _ => rfl | 7, _ => rfl | 8, _ => rfl | 9, _ => rfl | 10, _ => rfl | 11, _ => rfl | 12, _ => rfl | 13, _ => rfl | 14, _ => rfl | 15, _ => rfl | j + 16, h => absurd h (by omega)) hc hs hdg (fun x H1 h1 h2 h3 => q x H1 ⟨h1, h2, h3⟩)
theorem sl_X3_29 : SL RX3 29 yJ9_floorMod_7cf53 cJ9_floorMod_7cf53 3 (some .int) 2 := ⟨⟨tm_540, tm_541, tm_35, tm_542⟩, by decide +kernel⟩
theorem vl_X3_25 : VL RX3 25 RX2 yX2_copyFrom cX2_copyFrom 2 none 1 := ⟨⟨tm_525, tm_526, tm_527, tm_38, tm_528⟩, by decide +kernel⟩
theorem il_X3_24 : ILN RX3 "MemoryCourt" 24 yX2_init cX2_init 1 0 := ⟨⟨tm_524, tm_150, tm_38, tm_151⟩, by decide +kernel⟩
theorem dX3_keep_0 : decode cX3_keep 0 = .ok (.aload_n 0, 1) := by decide +kernel
theorem dX3_keep_1 : decode cX3_keep 1 = .ok (.getfield 11, 3) := by decide +kernel
theorem dX3_keep_4 : decode cX3_keep 4 = .ok (.aload_n 0, 1) := by decide +kernel
theorem dX3_keep_5 : decode cX3_keep 5 = .ok (.getfield 17, 3) := by decide +kernel
theorem dX3_keep_8 : decode cX3_keep 8 = .ok (.aaload, 1) := by decide +kernel
theorem dX3_keep_9 : decode cX3_keep 9 = .ok (.astore_n 2, 1) := by decide +kernel
theorem dX3_keep_10 : decode cX3_keep 10 = .ok (.aload_n 2, 1) := by decide +kernel
theorem dX3_keep_11 : decode cX3_keep 11 = .ok (.ifnonnull 21, 3) := by decide +kernel
theorem dX3_keep_14 : decode cX3_keep 14 = .ok (.new 9, 3) := by decide +kernel
theorem dX3_keep_17 : decode cX3_keep 17 = .ok (.dup, 1) := by decide +kernel
theorem dX3_keep_18 : decode cX3_keep 18 = .ok (.invokespecial 24, 3) := by decide +kernel
theorem dX3_keep_21 : decode cX3_keep 21 = .ok (.astore_n 2, 1) := by decide +kernel
theorem dX3_keep_22 : decode cX3_keep 22 = .ok (.aload_n 0, 1) := by decide +kernel
theorem dX3_keep_23 : decode cX3_keep 23 = .ok (.getfield 11, 3) := by decide +kernel
theorem dX3_keep_26 : decode cX3_keep 26 = .ok (.aload_n 0, 1) := by decide +kernel
theorem dX3_keep_27 : decode cX3_keep 27 = .ok (.getfield 17, 3) := by decide +kernel
theorem dX3_keep_30 : decode cX3_keep 30 = .ok (.aload_n 2, 1) := by decide +kernel
theorem dX3_keep_31 : decode cX3_keep 31 = .ok (.aastore, 1) := by decide +kernel
theorem dX3_keep_32 : decode cX3_keep 32 = .ok (.aload_n 2, 1) := by decide +kernel
theorem dX3_keep_33 : decode cX3_keep 33 = .ok (.aload_n 1, 1) := by decide +kernel
theorem dX3_keep_34 : decode cX3_keep 34 = .ok (.invokevirtual 25, 3) := by decide +kernel
theorem dX3_keep_37 : decode cX3_keep 37 = .ok (.aload_n 0, 1) := by decide +kernel
theorem dX3_keep_38 : decode cX3_keep 38 = .ok (.aload_n 0, 1) := by decide +kernel
theorem dX3_keep_39 : decode cX3_keep 39 = .ok (.getfield 17, 3) := by decide +kernel
theorem dX3_keep_42 : decode cX3_keep 42 = .ok (.iconst 1, 1) := by decide +kernel
theorem dX3_keep_43 : decode cX3_keep 43 = .ok (.iadd, 1) := by decide +kernel
theorem dX3_keep_44 : decode cX3_keep 44 = .ok (.bipush 8, 2) := by decide +kernel
theorem dX3_keep_46 : decode cX3_keep 46 = .ok (.invokestatic 29, 3) := by decide +kernel
theorem dX3_keep_49 : decode cX3_keep 49 = .ok (.putfield 17, 3) := by decide +kernel
theorem dX3_keep_52 : decode cX3_keep 52 = .ok (.aload_n 0, 1) := by decide +kernel
theorem dX3_keep_53 : decode cX3_keep 53 = .ok (.bipush 8, 2) := by decide +kernel
theorem dX3_keep_55 : decode cX3_keep 55 = .ok (.aload_n 0, 1) := by decide +kernel
theorem dX3_keep_56 : decode cX3_keep 56 = .ok (.getfield 21, 3) := by decide +kernel
theorem dX3_keep_59 : decode cX3_keep 59 = .ok (.iconst 1, 1) := by decide +kernel
theorem dX3_keep_60 : decode cX3_keep 60 = .ok (.iadd, 1) := by decide +kernel
theorem dX3_keep_61 : decode cX3_keep 61 = .ok (.invokestatic 35, 3) := by decide +kernel
theorem dX3_keep_64 : decode cX3_keep 64 = .ok (.putfield 21, 3) := by decide +kernel
theorem dX3_keep_67 : decode cX3_keep 67 = .ok (.return_, 1) := by decide +kernel
theorem dX3_bringBack_0 : decode cX3_bringBack 0 = .ok (.aload_n 0, 1) := by decide +kernel
theorem dX3_bringBack_1 : decode cX3_bringBack 1 = .ok (.aload_n 0, 1) := by decide +kernel
theorem dX3_bringBack_2 : decode cX3_bringBack 2 = .ok (.getfield 17, 3) := by decide +kernel
theorem dX3_bringBack_5 : decode cX3_bringBack 5 = .ok (.iconst 1, 1) := by decide +kernel
theorem dX3_bringBack_6 : decode cX3_bringBack 6 = .ok (.isub, 1) := by decide +kernel
theorem dX3_bringBack_7 : decode cX3_bringBack 7 = .ok (.bipush 8, 2) := by decide +kernel
theorem dX3_bringBack_9 : decode cX3_bringBack 9 = .ok (.invokestatic 29, 3) := by decide +kernel
theorem dX3_bringBack_12 : decode cX3_bringBack 12 = .ok (.putfield 17, 3) := by decide +kernel
theorem dX3_bringBack_15 : decode cX3_bringBack 15 = .ok (.aload_n 0, 1) := by decide +kernel
theorem dX3_bringBack_16 : decode cX3_bringBack 16 = .ok (.dup, 1) := by decide +kernel
theorem dX3_bringBack_17 : decode cX3_bringBack 17 = .ok (.getfield 21, 3) := by decide +kernel
theorem dX3_bringBack_20 : decode cX3_bringBack 20 = .ok (.iconst 1, 1) := by decide +kernel
theorem dX3_bringBack_21 : decode cX3_bringBack 21 = .ok (.isub, 1) := by decide +kernel
theorem dX3_bringBack_22 : decode cX3_bringBack 22 = .ok (.putfield 21, 3) := by decide +kernel
theorem dX3_bringBack_25 : decode cX3_bringBack 25 = .ok (.aload_n 0, 1) := by decide +kernel
theorem dX3_bringBack_26 : decode cX3_bringBack 26 = .ok (.getfield 11, 3) := by decide +kernel
theorem dX3_bringBack_29 : decode cX3_bringBack 29 = .ok (.aload_n 0, 1) := by decide +kernel
theorem dX3_bringBack_30 : decode cX3_bringBack 30 = .ok (.getfield 17, 3) := by decide +kernel
theorem dX3_bringBack_33 : decode cX3_bringBack 33 = .ok (.aaload, 1) := by decide +kernel
theorem dX3_bringBack_34 : decode cX3_bringBack 34 = .ok (.astore_n 2, 1) := by decide +kernel
theorem dX3_bringBack_35 : decode cX3_bringBack 35 = .ok (.aload_n 2, 1) := by decide +kernel
theorem dX3_bringBack_36 : decode cX3_bringBack 36 = .ok (.ifnull 8, 3) := by decide +kernel
theorem dX3_bringBack_39 : decode cX3_bringBack 39 = .ok (.aload_n 1, 1) := by decide +kernel
theorem dX3_bringBack_40 : decode cX3_bringBack 40 = .ok (.aload_n 2, 1) := by decide +kernel
theorem dX3_bringBack_41 : decode cX3_bringBack 41 = .ok (.invokevirtual 25, 3) := by decide +kernel
theorem dX3_bringBack_44 : decode cX3_bringBack 44 = .ok (.return_, 1) := by decide +kernel
theorem dX8_saveState_0 : decode cX8_saveState 0 = .ok (.aload_n 0, 1) := by decide +kernel
theorem dX8_saveState_1 : decode cX8_saveState 1 = .ok (.getfield 54, 3) := by decide +kernel
theorem dX8_saveState_4 : decode cX8_saveState 4 = .ok (.ifnonnull 14, 3) := by decide +kernel
theorem dX8_saveState_7 : decode cX8_saveState 7 = .ok (.aload_n 0, 1) := by decide +kernel
theorem dX8_saveState_8 : decode cX8_saveState 8 = .ok (.new 28, 3) := by decide +kernel
theorem dX8_saveState_11 : decode cX8_saveState 11 = .ok (.dup, 1) := by decide +kernel
theorem dX8_saveState_12 : decode cX8_saveState 12 = .ok (.invokespecial 30, 3) := by decide +kernel
theorem dX8_saveState_15 : decode cX8_saveState 15 = .ok (.putfield 54, 3) := by decide +kernel
theorem dX8_saveState_18 : decode cX8_saveState 18 = .ok (.aload_n 0, 1) := by decide +kernel
theorem dX8_saveState_19 : decode cX8_saveState 19 = .ok (.getfield 54, 3) := by decide +kernel
theorem dX8_saveState_22 : decode cX8_saveState 22 = .ok (.aload_n 0, 1) := by decide +kernel
theorem dX8_saveState_23 : decode cX8_saveState 23 = .ok (.getfield 31, 3) := by decide +kernel
theorem dX8_saveState_26 : decode cX8_saveState 26 = .ok (.invokevirtual 90, 3) := by decide +kernel
theorem dX8_saveState_29 : decode cX8_saveState 29 = .ok (.aload_n 0, 1) := by decide +kernel
theorem dX8_saveState_30 : decode cX8_saveState 30 = .ok (.iconst 1, 1) := by decide +kernel
theorem dX8_saveState_31 : decode cX8_saveState 31 = .ok (.putfield 57, 3) := by decide +kernel
theorem dX8_saveState_34 : decode cX8_saveState 34 = .ok (.aload_n 0, 1) := by decide +kernel
theorem dX8_saveState_35 : decode cX8_saveState 35 = .ok (.getfield 31, 3) := by decide +kernel
theorem dX8_saveState_38 : decode cX8_saveState 38 = .ok (.getfield 108, 3) := by decide +kernel
theorem dX8_saveState_41 : decode cX8_saveState 41 = .ok (.ireturn, 1) := by decide +kernel
theorem dX8_restoreState_0 : decode cX8_restoreState 0 = .ok (.aload_n 0, 1) := by decide +kernel
theorem dX8_restoreState_1 : decode cX8_restoreState 1 = .ok (.getfield 57, 3) := by decide +kernel
theorem dX8_restoreState_4 : decode cX8_restoreState 4 = .ok (.ifCond .eq 10, 3) := by decide +kernel
theorem dX8_restoreState_7 : decode cX8_restoreState 7 = .ok (.aload_n 0, 1) := by decide +kernel
theorem dX8_restoreState_8 : decode cX8_restoreState 8 = .ok (.getfield 54, 3) := by decide +kernel
theorem dX8_restoreState_11 : decode cX8_restoreState 11 = .ok (.ifnonnull 14, 3) := by decide +kernel
theorem dX8_restoreState_14 : decode cX8_restoreState 14 = .ok (.new 278, 3) := by decide +kernel
theorem dX8_restoreState_17 : decode cX8_restoreState 17 = .ok (.dup, 1) := by decide +kernel
theorem dX8_restoreState_18 : decode cX8_restoreState 18 = .ok (.ldc_w 377, 3) := by decide +kernel
theorem dX8_restoreState_21 : decode cX8_restoreState 21 = .ok (.invokespecial 282, 3) := by decide +kernel
theorem dX8_restoreState_24 : decode cX8_restoreState 24 = .ok (.athrow, 1) := by decide +kernel
theorem dX8_restoreState_25 : decode cX8_restoreState 25 = .ok (.aload_n 0, 1) := by decide +kernel
theorem dX8_restoreState_26 : decode cX8_restoreState 26 = .ok (.getfield 31, 3) := by decide +kernel
theorem dX8_restoreState_29 : decode cX8_restoreState 29 = .ok (.aload_n 0, 1) := by decide +kernel
theorem dX8_restoreState_30 : decode cX8_restoreState 30 = .ok (.getfield 54, 3) := by decide +kernel
theorem dX8_restoreState_33 : decode cX8_restoreState 33 = .ok (.invokevirtual 90, 3) := by decide +kernel
theorem dX8_restoreState_36 : decode cX8_restoreState 36 = .ok (.aload_n 0, 1) := by decide +kernel
theorem dX8_restoreState_37 : decode cX8_restoreState 37 = .ok (.getfield 50, 3) := by decide +kernel
theorem dX8_restoreState_40 : decode cX8_restoreState 40 = .ok (.invokevirtual 93, 3) := by decide +kernel
theorem dX8_restoreState_43 : decode cX8_restoreState 43 = .ok (.aload_n 0, 1) := by decide +kernel
theorem dX8_restoreState_44 : decode cX8_restoreState 44 = .ok (.getfield 31, 3) := by decide +kernel
theorem dX8_restoreState_47 : decode cX8_restoreState 47 = .ok (.getfield 108, 3) := by decide +kernel
theorem dX8_restoreState_50 : decode cX8_restoreState 50 = .ok (.ireturn, 1) := by decide +kernel
/-! the past: keep, bringBack; the saved court: saveState, restoreState -/
def updC (f : Nat → OS) (i : Nat) (y : OS) : Nat → OS := fun j => if j = i then y else f j
def f_X3_end (p0 : PS) : Option PS :=
  bnd (f_J9_floorMod_7cf53 0 ((p0.1 1) + (1 : Int32)) (8 : Int32)) (fun r : Int32 =>
  Let (pI p0 1 r) (fun p1 : PS =>
  Let (pI p1 2 (if ((p1.1 2) + (1 : Int32)) < (8 : Int32) then ((p1.1 2) + (1 : Int32)) else (8 : Int32))) (fun p2 : PS =>
  some p2)))
def f_X3_keep (n : Nat) (pa : PS) (no : OS) : Option PS :=
  gI 8 (pa.1 1) (
  if (pa.1 1).toNatClampNeg < pa.2.1 then (
  bnd (f_X2_copyFrom n (pa.2.2 (pa.1 1).toNatClampNeg) no) (fun (y : OS) =>
  f_X3_end (pa.1, (pa.2.1, updC pa.2.2 (pa.1 1).toNatClampNeg y)))) else (
  if (pa.1 1).toNatClampNeg = pa.2.1 then (
  bnd (f_X2_copyFrom n zOS no) (fun (y : OS) =>
  f_X3_end (pa.1, (pa.2.1 + 1, updC pa.2.2 pa.2.1 y)))) else none))
def f_X3_bringBack (n : Nat) (pa : PS) (no : OS) : Option (OS × PS) :=
  bnd (f_J9_floorMod_7cf53 0 ((pa.1 1) - (1 : Int32)) (8 : Int32)) (fun r : Int32 =>
  Let (pI pa 1 r) (fun p1 : PS =>
  Let (pI p1 2 ((p1.1 2) - (1 : Int32))) (fun p2 : PS =>
  gI 8 (p2.1 1) (
  if (p2.1 1).toNatClampNeg < p2.2.1 then (
  bnd (f_X2_copyFrom n no (p2.2.2 (p2.1 1).toNatClampNeg)) (fun (y : OS) =>
  some (y, p2))) else (
  some (no, p2))))))
def savW (k : KT) (sa : Nat → Nat) (o : Option OS) : va_W := match o with
  | none => []
  | some c => wCourt k sa c
def svV (sa : Nat → Nat) (o : Option OS) : Value := match o with
  | none => .null
  | some _ => .ref (sa 0)
def f_X8_saveState (n : Nat) (th_0 no_0 : OS) (so : Option OS) : Option (OS × OS × Int32) :=
  bnd (f_X2_copyFrom n (so.getD zOS) no_0) (fun (y : OS) =>
  some (sI th_0 8 (1 : Int32), y, no_0.1 0))
def f_X8_restoreState (n : Nat) (th_0 no_0 : OS) (pa_0 : PS) (so : Option OS) : Option (OS × PS × Int32 × Nat) :=
  if th_0.1 8 = 0 then some (no_0, pa_0, (0 : Int32), 3) else
  match so with
  | none => some (no_0, pa_0, (0 : Int32), 3)
  | some c =>
    bnd (f_X2_copyFrom n no_0 c) (fun (y : OS) =>
    bnd (f_X3_forget n pa_0) (fun (p : PS) =>
    some (y, p, y.1 0, 0)))
theorem pool_len (k : KT) (pp : Nat → Nat → Nat) (cs : Nat → OS) (m : Nat) : ((List.range m).flatMap (fun i => wCourt k (pp i) (cs i))).length = 12 * m := by
  induction m with
  | zero => rfl
  | succ m ih =>
    rw [List.range_succ, List.flatMap_append, List.length_append, ih]
    have : ([m].flatMap (fun i => wCourt k (pp i) (cs i))).length = 12 := rfl
    omega
theorem pool_congr (k : KT) {pp pp' : Nat → Nat → Nat} {cs cs' : Nat → OS} {L : List Nat} (h : ∀ i ∈ L, pp i = pp' i ∧ cs i = cs' i) : L.flatMap (fun i => wCourt k (pp i) (cs i)) = L.flatMap (fun i => wCourt k (pp' i) (cs' i)) := by
  induction L with
  | nil => rfl
  | cons x L ih =>
    rw [List.flatMap_cons, List.flatMap_cons, ih (fun i hi => h i (List.mem_cons_of_mem _ hi)), (h x List.mem_cons_self).1, (h x List.mem_cons_self).2]
theorem pool_split (k : KT) (pp : Nat → Nat → Nat) {m i : Nat} (cs : Nat → OS) (h : i < m) : poolW k pp (m, cs) = (List.range i).flatMap (fun i => wCourt k (pp i) (cs i)) ++ wCourt k (pp i) (cs i) ++ (List.range' (i + 1) (m - i - 1)).flatMap (fun i => wCourt k (pp i) (cs i)) := by
  have e : List.range m = List.range i ++ [i] ++ List.range' (i + 1) (m - i - 1) := by
    have h1 : List.range' 0 i ++ List.range' (0 + i) (1 + (m - i - 1)) = List.range' 0 (i + (1 + (m - i - 1))) := List.range'_append_1 ..
    have h2 : List.range' i 1 ++ List.range' (i + 1) (m - i - 1) = List.range' i (1 + (m - i - 1)) := List.range'_append_1 ..
    have h3 : i + (1 + (m - i - 1)) = m := by omega
    rw [h3, Nat.zero_add] at h1
    rw [List.range_eq_range', List.range_eq_range', List.append_assoc, show [i] = List.range' i 1 from rfl, h2]
    exact h1.symm
  show (List.range m).flatMap _ = _
  rw [e, List.flatMap_append, List.flatMap_append]
  rfl
theorem pool_set (k : KT) (pp : Nat → Nat → Nat) {m i : Nat} (cs : Nat → OS) (y : OS) (h : i < m) : poolW k pp (m, updC cs i y) = (List.range i).flatMap (fun i => wCourt k (pp i) (cs i)) ++ wCourt k (pp i) y ++ (List.range' (i + 1) (m - i - 1)).flatMap (fun i => wCourt k (pp i) (cs i)) := by
  rw [pool_split k pp (updC cs i y) h]
  have h1 : ∀ j ∈ List.range i, pp j = pp j ∧ updC cs i y j = cs j := fun j hj => ⟨rfl, by
    have : j < i := List.mem_range.mp hj
    simp [updC]; omega⟩
  have h2 : ∀ j ∈ List.range' (i + 1) (m - i - 1), pp j = pp j ∧ updC cs i y j = cs j := fun j hj => ⟨rfl, by
    have := (List.mem_range'_1.mp hj).1
    simp [updC]; omega⟩
  rw [pool_congr k h1, pool_congr k h2]
  have h3 : updC cs i y i = y := by simp [updC]
  rw [h3]
theorem pool_push (k : KT) (pp : Nat → Nat → Nat) (a : Nat → Nat) (m : Nat) (cs : Nat → OS) (y : OS) : poolW k pp (m, cs) ++ wCourt k a y = poolW k (fun j => if j = m then a else pp j) (m + 1, updC cs m y) := by
  show _ = (List.range (m + 1)).flatMap _
  rw [List.range_succ, List.flatMap_append]
  have h1 : ∀ j ∈ List.range m, pp j = (if j = m then a else pp j) ∧ cs j = updC cs m y j := fun j hj => by
    have : j < m := List.mem_range.mp hj
    exact ⟨by rw [if_neg (by omega)], by simp [updC]; omega⟩
  rw [show poolW k pp (m, cs) = (List.range m).flatMap (fun i => wCourt k (pp i) (cs i)) from rfl, pool_congr k h1]
  congr 1
  show wCourt k a y = wCourt k (if m = m then a else pp m) (updC cs m y m) ++ []
  rw [if_pos rfl, List.append_nil]
  simp [updC]
theorem nd_two {n : Nat} (h : 12 ≤ n) : va_nd (List.range' n 12 ++ List.range' 0 12) = true := by
  simp [va_nd, List.range']
  omega
theorem nd_two' {n : Nat} (h : 12 ≤ n) : va_nd (List.range' 0 12 ++ List.range' n 12) = true := by
  simp [va_nd, List.range']
  omega
set_option maxHeartbeats 4000000 in
set_option maxRecDepth 100000 in
theorem c_X3_keep (n : Nat) (l : Launch) (k : KT) (a_no a_pa : Nat → Nat) (pp : Nat → Nat → Nat) (pa : PS) (no : OS) (res : PS) (hf : f_X3_keep n pa no = some res) :
    CG l k yX3_keep cX3_keep 3 none 4 13 2000 200 [.ref (a_pa 0), .ref (a_no 0)] ((wCourt k a_no no ++ wPast k a_pa pp pa) ++ poolW k pp pa.2) (Qv k (fun u : PS × (Nat → Nat → Nat) => (wCourt k a_no no ++ wPast k a_pa u.2 u.1) ++ poolW k u.2 u.1.2) (fun u => res = u.1)) := by
  refine CG.ofV (by decide) (Nat.le_of_ble_eq_true rfl) (fun p e s m args below meth c A Q E hnm hW hA hret ls hl => ?_)
  have hl : lv_has ls 3 [(0, .ref (a_pa 0)), (1, .ref (a_no 0))] := hl
  obtain ⟨f, mm, cs⟩ := pa
  unfold f_X3_keep at hf
  dsimp only at hf
  obtain ⟨hin, hf⟩ := oI hf
  -- behind the choice: the court of the place is there
  have J : ∀ (pp1 : Nat → Nat → Nat) (m1 : Nat) (cs1 : Nat → OS) (y : OS) (H : Heap) (locs : List Loc) (ls : Array Slot) (hi : (f 1).toNatClampNeg < m1) (hg : f_X2_copyFrom n (cs1 (f 1).toNatClampNeg) no = some y) (hf : f_X3_end (f, (m1, updC cs1 (f 1).toNatClampNeg y)) = some res)
      (hW : WD k A s.heap ((wCourt k a_no no ++ wPast k a_pa pp1 (f, (m1, cs1))) ++ poolW k pp1 (m1, cs1)) H locs) (hl : lv_has ls 3 [(0, .ref (a_pa 0)), (1, .ref (a_no 0)), (2, .ref (pp1 (f 1).toNatClampNeg 0))]),
      W p l e { frames := 4, cells := 13, slots := 2000, locals := 200 } s m args below meth c H locs 13 2000 Q (F0 m 32 ls []) := by
    intro pp1 m1 cs1 y H locs ls hi hg hf hW hl
    refine k_aload_n E hl 2 dX3_keep_32 rfl ?_
    refine k_aload_n E hl 1 dX3_keep_33 rfl ?_
    have hsp := pool_split k pp1 cs1 hi
    have hlen : ((wCourt k a_no no ++ wPast k a_pa pp1 (f, (m1, cs1))) ++ (List.range (f 1).toNatClampNeg).flatMap (fun i => wCourt k (pp1 i) (cs1 i))).length = 14 + 12 * (f 1).toNatClampNeg := by
      rw [List.length_append, pool_len]; rfl
    have h9 := blk_at (ws := ((wCourt k a_no no ++ wPast k a_pa pp1 (f, (m1, cs1))) ++ poolW k pp1 (m1, cs1))) (X := (wCourt k a_no no ++ wPast k a_pa pp1 (f, (m1, cs1))) ++ (List.range (f 1).toNatClampNeg).flatMap (fun i => wCourt k (pp1 i) (cs1 i))) (B := wCourt k (pp1 (f 1).toNatClampNeg) (cs1 (f 1).toNatClampNeg)) (Y := _) (by rw [hsp]; simp only [List.append_assoc]; rfl) (j := 0) (Nat.le_of_ble_eq_true rfl)
    rw [hlen] at h9
    refine k_callVv (As := [.ref (a_no 0)]) (rest := []) (ws2 := fun u => ((wCourt k a_no no ++ wPast k a_pa pp1 (f, (m1, cs1))) ++ poolW k pp1 (m1, updC cs1 (f 1).toNatClampNeg u))) (c_X2_copyFrom n l k (pp1 (f 1).toNatClampNeg) a_no (cs1 (f 1).toNatClampNeg) no y hg) E vl_X3_25 dX3_keep_34 rfl (List.range' (14 + 12 * (f 1).toNatClampNeg) 12 ++ List.range' 0 12) 3 (14 + 12 * (f 1).toNatClampNeg) hW hA hl rfl ?_ rfl h9 ⟨by decide, by decide⟩ ⟨by decide, by decide⟩ (Nat.le_of_ble_eq_true rfl) (nd_two (by omega)) (fun _ => rfl) (fun u => ?_) (fun u H locs hp hW => ?_)
    · simp only [List.map_append]
      exact app2 (blk_map ((wCourt k a_no no ++ wPast k a_pa pp1 (f, (m1, cs1))) ++ (List.range (f 1).toNatClampNeg).flatMap (fun i => wCourt k (pp1 i) (cs1 i))) (wCourt k (pp1 (f 1).toNatClampNeg) (cs1 (f 1).toNatClampNeg)) _ _ 12 (by rw [hsp]; simp only [List.append_assoc]; rfl) hlen rfl)
        (blk_map [] (wCourt k a_no no) (wPast k a_pa pp1 (f, (m1, cs1)) ++ poolW k pp1 (m1, cs1)) 0 12 (by simp only [List.append_assoc, List.nil_append]) rfl rfl)
    · show putW _ (_ ++ _) (_ ++ _) = _
      rw [putW_app _ _ _ _ _ rfl, blk_put ((wCourt k a_no no ++ wPast k a_pa pp1 (f, (m1, cs1))) ++ (List.range (f 1).toNatClampNeg).flatMap (fun i => wCourt k (pp1 i) (cs1 i))) (wCourt k (pp1 (f 1).toNatClampNeg) (cs1 (f 1).toNatClampNeg)) ((List.range' ((f 1).toNatClampNeg + 1) (m1 - (f 1).toNatClampNeg - 1)).flatMap (fun i => wCourt k (pp1 i) (cs1 i))) (wCourt k (pp1 (f 1).toNatClampNeg) u) _ 12 (by rw [hsp]; simp only [List.append_assoc]) rfl hlen rfl,
        blk_put [] (wCourt k a_no no) (wPast k a_pa pp1 (f, (m1, cs1)) ++ ((List.range (f 1).toNatClampNeg).flatMap (fun i => wCourt k (pp1 i) (cs1 i)) ++ (wCourt k (pp1 (f 1).toNatClampNeg) u ++ (List.range' ((f 1).toNatClampNeg + 1) (m1 - (f 1).toNatClampNeg - 1)).flatMap (fun i => wCourt k (pp1 i) (cs1 i))))) (wCourt k a_no no) 0 12 (by simp only [List.append_assoc, List.nil_append]) rfl rfl rfl, pool_set k pp1 cs1 u hi]
      try simp only [List.append_assoc, List.nil_append]
    cases hp
    unfold f_X3_end at hf
    have hW : WD k A s.heap ((wCourt k a_no no ++ wPast k a_pa pp1 (f, (m1, updC cs1 (f 1).toNatClampNeg y))) ++ poolW k pp1 (m1, updC cs1 (f 1).toNatClampNeg y)) H locs := hW
    generalize updC cs1 (f 1).toNatClampNeg y = cs2 at hf hW
    obtain ⟨r8, hg8, hf⟩ := ob hf
    obtain ⟨p1, e1, hf⟩ := oL hf
    obtain ⟨p2, e2, hf⟩ := oL hf
    refine k_aload_n E hl 0 dX3_keep_37 rfl ?_
    refine k_aload_n E hl 0 dX3_keep_38 rfl ?_
    refine gf_X3_17 E hW 12 rfl rfl dX3_keep_39 ?_
    refine lv_iconst (v := (1 : Int32)) E.hx E.hb dX3_keep_42 ic_1 ?_
    refine lv_iadd E.hx E.hb dX3_keep_43 ?_
    refine lv_bipush (v := (8 : Int32)) E.hx E.hb dX3_keep_44 bp_8 ?_
    refine k_callSi (As := [.int ((f 1) + (1 : Int32)), .int (8 : Int32)]) (rest := [.ref (a_pa 0)]) (ws2 := fun u => (wCourt k a_no no ++ wPast k a_pa pp1 (f, (m1, cs2))) ++ poolW k pp1 (m1, cs2)) (c_J9_floorMod_7cf53 0 l k ((f 1) + (1 : Int32)) (8 : Int32) r8 hg8) E sl_X3_29 dX3_keep_46 rfl [] hW hA hl rfl rfl ⟨by decide, by decide⟩ ⟨by decide, by decide⟩ (Nat.le_of_ble_eq_true rfl) rfl (fun _ => rfl) (fun _ => rfl) (fun r u H locs hp hW => ?_)
    cases hp
    have hW : WD k A s.heap ((wCourt k a_no no ++ wPast k a_pa pp1 (f, (m1, cs2))) ++ poolW k pp1 (m1, cs2)) H locs := hW
    refine pf_X3_17 (ws2 := (wCourt k a_no no ++ wPast k a_pa pp1 p1) ++ poolW k pp1 (m1, cs2)) E hW 12 rfl rfl rfl (Nat.le_of_ble_eq_true rfl) dX3_keep_49 (by rw [e1]; rfl) (fun H locs hW => ?_)
    refine k_aload_n E hl 0 dX3_keep_52 rfl ?_
    refine lv_bipush (v := (8 : Int32)) E.hx E.hb dX3_keep_53 bp_8 ?_
    refine k_aload_n E hl 0 dX3_keep_55 rfl ?_
    refine gf_X3_21 E hW 12 rfl rfl dX3_keep_56 ?_
    refine lv_iconst (v := (1 : Int32)) E.hx E.hb dX3_keep_59 ic_1 ?_
    refine lv_iadd E.hx E.hb dX3_keep_60 ?_
    refine va_mmin E.hx E.hb (E.hml.trans hl.1.symm) E.ho (E.w tm_543 rfl) (E.w tm_537 rfl) (E.w tm_35 rfl) (E.w tm_538 rfl) (by decide) (Nat.le_of_ble_eq_true rfl) (by decide) (by decide) dX3_keep_61 ?_
    refine pf_X3_21 (ws2 := (wCourt k a_no no ++ wPast k a_pa pp1 p2) ++ poolW k pp1 (m1, cs2)) E hW 12 rfl rfl rfl (Nat.le_of_ble_eq_true rfl) dX3_keep_64 (by rw [e2, e1]; rfl) (fun H locs hW => ?_)
    refine hret (p2, pp1) _ _ _ _ _ _ ?_ (Option.some.inj hf).symm (by decide) (by decide) dX3_keep_67
    have e3 : p2.2 = (m1, cs2) := by rw [e2, e1]; rfl
    show WD k A s.heap ((wCourt k a_no no ++ wPast k a_pa pp1 p2) ++ poolW k pp1 p2.2) H locs
    rw [e3]
    exact hW
  refine k_aload_n E hl 0 dX3_keep_0 rfl ?_
  refine gf_X3_11 E hW 12 rfl rfl dX3_keep_1 ?_
  refine k_aload_n E hl 0 dX3_keep_4 rfl ?_
  refine gf_X3_17 E hW 12 rfl rfl dX3_keep_5 ?_
  refine va_aldq E.hx E.hb E.hK hW.1 13 3 rfl rfl hin dX3_keep_8 ?_
  by_cases hi : (f 1).toNatClampNeg < mm
  · have hf := oT hi hf
    obtain ⟨y, hg, hf⟩ := ob hf
    show W p l e _ s m args below meth c _ _ _ _ Q (F0 m 9 ls [va_rf (if (f 1).toNatClampNeg < mm then some (pp (f 1).toNatClampNeg 0) else none)])
    rw [if_pos hi]
    refine lv_astore_n (lv' := [(2, .ref (pp (f 1).toNatClampNeg 0)), (0, .ref (a_pa 0)), (1, .ref (a_no 0))]) E.hx E.hb dX3_keep_9 rfl hl (by decide) rfl (fun ls hl => ?_)
    refine k_aload_n E hl 0 dX3_keep_10 rfl ?_
    refine lv_ifnonnull (tgt := 32) E.hx E.hb dX3_keep_11 (by decide) ?_
    exact W.widen (by decide) (by decide) (J pp mm cs y _ _ _ hi hg hf hW (lv_sub hl [1, 2, 0] rfl))
  · have hf := oF hi hf
    by_cases hm : (f 1).toNatClampNeg = mm
    · have hf := oT hm hf
      obtain ⟨y, hg, hf⟩ := ob hf
      show W p l e _ s m args below meth c _ _ _ _ Q (F0 m 9 ls [va_rf (if (f 1).toNatClampNeg < mm then some (pp (f 1).toNatClampNeg 0) else none)])
      rw [if_neg hi]
      refine lv_astore_nN (lv' := [(2, .null), (0, .ref (a_pa 0)), (1, .ref (a_no 0))]) E.hx E.hb dX3_keep_9 rfl hl (by decide) rfl (fun ls hl => ?_)
      refine lv_aload_nN E.hx E.hb dX3_keep_10 rfl (lv_at hl 0 rfl) ?_
      refine lv_ifnonnullN E.hx E.hb dX3_keep_11 ?_
      refine nw_X3_9 E hW hA (by decide) (by decide) dX3_keep_14 (fun q1 H hW => ?_)
      refine lv_dup E.hx E.hb dX3_keep_17 rfl ?_
      refine k_callNewN (As := []) (rest := [.ref q1]) (c_X2_init l k q1) E il_X3_24 dX3_keep_18 rfl hW hA hl rfl ⟨by decide, by decide⟩ ⟨by decide, by decide⟩ (Nat.le_of_ble_eq_true rfl) (fun u1 H locs _ hW => ?_)
      refine lv_astore_n (lv' := [(2, .ref q1), (0, .ref (a_pa 0)), (1, .ref (a_no 0))]) E.hx E.hb dX3_keep_21 rfl hl (by decide) rfl (fun ls hl => ?_)
      refine k_aload_n E hl 1 dX3_keep_22 rfl ?_
      refine gf_X3_11 E hW 12 rfl rfl dX3_keep_23 ?_
      refine k_aload_n E hl 1 dX3_keep_26 rfl ?_
      refine gf_X3_17 E hW 12 rfl rfl dX3_keep_27 ?_
      refine k_aload_n E hl 0 dX3_keep_30 rfl ?_
      have hlen : ((wCourt k a_no no ++ wPast k a_pa pp (f, (mm, cs))) ++ poolW k pp (mm, cs)).length = 14 + 12 * mm := by
        rw [List.length_append, show (poolW k pp (mm, cs)).length = 12 * mm from pool_len k pp cs mm]; rfl
      have hq : ((wCourt k a_no no ++ wPast k a_pa pp (f, (mm, cs))) ++ poolW k pp (mm, cs) ++ wCourt k (adr q1 u1) zOS)[14 + 12 * mm]? = some (q1, ((wCourt k (adr q1 u1) zOS)[0]'(Nat.le_of_ble_eq_true rfl)).2) := by
        rw [List.getElem?_append_right (by omega), hlen, Nat.sub_self]
        rfl
      refine va_astq E.hx E.hb E.hK hW.1 hW.2.1 hW.2.2 13 3 (14 + 12 * mm) 3 (r := (RX2, TX2, 16)) rfl rfl hq rfl hin dX3_keep_31 (fun H locs h1 h2 h3 => ?_)
      have hW : WD k A s.heap ((wCourt k a_no no ++ wPast k a_pa (fun j => if j = mm then adr q1 u1 else pp j) (f, (mm + 1, updC cs mm zOS))) ++ poolW k (fun j => if j = mm then adr q1 u1 else pp j) (mm + 1, updC cs mm zOS)) H locs := by
        rw [← pool_push k pp (adr q1 u1) mm cs zOS]
        have hfun : (fun i => if i < mm + 1 then some ((fun j => if j = mm then adr q1 u1 else pp j) i 0) else none) = va_up (fun i => if i < mm then some (pp i 0) else none) (f 1).toNatClampNeg (some q1) := by
          funext i
          unfold va_up
          rw [hm]
          dsimp only
          by_cases h5 : i = mm
          · subst h5; rw [if_pos (by omega), if_pos rfl, if_pos rfl]; rfl
          · by_cases h6 : i < mm
            · rw [if_pos (by omega), if_neg h5, if_neg h5, if_pos h6]
            · rw [if_neg (by omega), if_neg h5, if_neg h6]
        have hset : ((wCourt k a_no no ++ wPast k a_pa pp (f, (mm, cs))) ++ poolW k pp (mm, cs) ++ wCourt k (adr q1 u1) zOS).set 13 (a_pa 1, .inl (k.2.1.1 3, 8, .inr (.inr (.inr (.inr (va_up (fun i => if i < mm then some (pp i 0) else none) (f 1).toNatClampNeg (some q1))))))) = (wCourt k a_no no ++ wPast k a_pa (fun j => if j = mm then adr q1 u1 else pp j) (f, (mm + 1, updC cs mm zOS))) ++ (poolW k pp (mm, cs) ++ wCourt k (adr q1 u1) zOS) := by
          rw [← hfun, List.append_assoc]
          rfl
        rw [← hset]
        exact ⟨h1, h2, h3⟩
      refine W.widen (by decide) (by decide) (J (fun j => if j = mm then adr q1 u1 else pp j) (mm + 1) (updC cs mm zOS) y _ _ _ (by omega) ?_ ?_ hW ?_)
      · rw [hm, show updC cs mm zOS mm = zOS by simp [updC]]; exact hg
      · rw [hm, show updC (updC cs mm zOS) mm y = updC cs mm y by funext j; simp only [updC]; split <;> rfl]; exact hf
      · have h7 : (if (f 1).toNatClampNeg = mm then adr q1 u1 else pp (f 1).toNatClampNeg) 0 = q1 := by rw [if_pos hm]; rfl
        show lv_has ls 3 [(0, .ref (a_pa 0)), (1, .ref (a_no 0)), (2, .ref ((if (f 1).toNatClampNeg = mm then adr q1 u1 else pp (f 1).toNatClampNeg) 0))]
        rw [h7]
        exact lv_sub hl [1, 2, 0] rfl
    · exact o0 (oF hm hf)
set_option maxHeartbeats 4000000 in
set_option maxRecDepth 100000 in
theorem c_X3_bringBack (n : Nat) (l : Launch) (k : KT) (a_no a_pa : Nat → Nat) (pp : Nat → Nat → Nat) (pa : PS) (no : OS) (res : OS × PS) (hf : f_X3_bringBack n pa no = some res) :
    CG l k yX3_bringBack cX3_bringBack 3 none 4 0 0 200 [.ref (a_pa 0), .ref (a_no 0)] ((wCourt k a_no no ++ wPast k a_pa pp pa) ++ poolW k pp pa.2) (Qv k (fun u : OS × PS × (Nat → Nat → Nat) => (wCourt k a_no u.1 ++ wPast k a_pa u.2.2 u.2.1) ++ poolW k u.2.2 u.2.1.2) (fun u => res = (u.1, u.2.1))) := by
  refine CG.ofV (by decide) (Nat.le_of_ble_eq_true rfl) (fun p e s m args below meth c A Q E hnm hW hA hret ls hl => ?_)
  have hl : lv_has ls 3 [(0, .ref (a_pa 0)), (1, .ref (a_no 0))] := hl
  obtain ⟨f, mm, cs⟩ := pa
  unfold f_X3_bringBack at hf
  obtain ⟨r8, hg8, hf⟩ := ob hf
  obtain ⟨p1, e1, hf⟩ := oL hf
  obtain ⟨p2, e2, hf⟩ := oL hf
  refine k_aload_n E hl 0 dX3_bringBack_0 rfl ?_
  refine k_aload_n E hl 0 dX3_bringBack_1 rfl ?_
  refine gf_X3_17 E hW 12 rfl rfl dX3_bringBack_2 ?_
  refine lv_iconst (v := (1 : Int32)) E.hx E.hb dX3_bringBack_5 ic_1 ?_
  refine lv_isub E.hx E.hb dX3_bringBack_6 ?_
  refine lv_bipush (v := (8 : Int32)) E.hx E.hb dX3_bringBack_7 bp_8 ?_
  refine k_callSi (As := [.int ((f 1) - (1 : Int32)), .int (8 : Int32)]) (rest := [.ref (a_pa 0)]) (ws2 := fun u => (wCourt k a_no no ++ wPast k a_pa pp (f, (mm, cs))) ++ poolW k pp (mm, cs)) (c_J9_floorMod_7cf53 0 l k ((f 1) - (1 : Int32)) (8 : Int32) r8 hg8) E sl_X3_29 dX3_bringBack_9 rfl [] hW hA hl rfl rfl ⟨by decide, by decide⟩ ⟨by decide, by decide⟩ (Nat.le_of_ble_eq_true rfl) rfl (fun _ => rfl) (fun _ => rfl) (fun r u H locs hp hW => ?_)
  cases hp
  have hW : WD k A s.heap ((wCourt k a_no no ++ wPast k a_pa pp (f, (mm, cs))) ++ poolW k pp (mm, cs)) H locs := hW
  refine pf_X3_17 (ws2 := (wCourt k a_no no ++ wPast k a_pa pp p1) ++ poolW k pp (mm, cs)) E hW 12 rfl rfl rfl (Nat.le_of_ble_eq_true rfl) dX3_bringBack_12 (by rw [e1]; rfl) (fun H locs hW => ?_)
  refine k_aload_n E hl 0 dX3_bringBack_15 rfl ?_
  refine lv_dup E.hx E.hb dX3_bringBack_16 rfl ?_
  refine gf_X3_21 E hW 12 rfl rfl dX3_bringBack_17 ?_
  refine lv_iconst (v := (1 : Int32)) E.hx E.hb dX3_bringBack_20 ic_1 ?_
  refine lv_isub E.hx E.hb dX3_bringBack_21 ?_
  refine pf_X3_21 (ws2 := (wCourt k a_no no ++ wPast k a_pa pp p2) ++ poolW k pp (mm, cs)) E hW 12 rfl rfl rfl (Nat.le_of_ble_eq_true rfl) dX3_bringBack_22 (by rw [e2, e1]; rfl) (fun H locs hW => ?_)
  have e3 : p2.2 = (mm, cs) := by rw [e2, e1]; rfl
  clear e1 e2
  obtain ⟨g, mm', cs'⟩ := p2
  cases e3
  obtain ⟨hin, hf⟩ := oI hf
  refine k_aload_n E hl 0 dX3_bringBack_25 rfl ?_
  refine gf_X3_11 E hW 12 rfl rfl dX3_bringBack_26 ?_
  refine k_aload_n E hl 0 dX3_bringBack_29 rfl ?_
  refine gf_X3_17 E hW 12 rfl rfl dX3_bringBack_30 ?_
  refine va_aldq E.hx E.hb E.hK hW.1 13 3 rfl rfl hin dX3_bringBack_33 ?_
  by_cases hi : (g 1).toNatClampNeg < mm
  · have hf := oT hi hf
    obtain ⟨y, hg, hf⟩ := ob hf
    show W p l e _ s m args below meth c _ _ _ _ Q (F0 m 34 ls [va_rf (if (g 1).toNatClampNeg < mm then some (pp (g 1).toNatClampNeg 0) else none)])
    rw [if_pos hi]
    refine lv_astore_n (lv' := [(2, .ref (pp (g 1).toNatClampNeg 0)), (0, .ref (a_pa 0)), (1, .ref (a_no 0))]) E.hx E.hb dX3_bringBack_34 rfl hl (by decide) rfl (fun ls hl => ?_)
    refine k_aload_n E hl 0 dX3_bringBack_35 rfl ?_
    refine lv_ifnull E.hx E.hb dX3_bringBack_36 ?_
    refine k_aload_n E hl 2 dX3_bringBack_39 rfl ?_
    refine k_aload_n E hl 0 dX3_bringBack_40 rfl ?_
    have hsp := pool_split k pp cs hi
    have hlen : ((wCourt k a_no no ++ wPast k a_pa pp (g, (mm, cs))) ++ (List.range (g 1).toNatClampNeg).flatMap (fun i => wCourt k (pp i) (cs i))).length = 14 + 12 * (g 1).toNatClampNeg := by
      rw [List.length_append, pool_len]; rfl
    refine k_callVv (As := [.ref (pp (g 1).toNatClampNeg 0)]) (rest := []) (ws2 := fun u => ((wCourt k a_no u ++ wPast k a_pa pp (g, (mm, cs))) ++ poolW k pp (mm, cs))) (c_X2_copyFrom n l k a_no (pp (g 1).toNatClampNeg) no (cs (g 1).toNatClampNeg) y hg) E vl_X3_25 dX3_bringBack_41 rfl (List.range' 0 12 ++ List.range' (14 + 12 * (g 1).toNatClampNeg) 12) 3 0 hW hA hl rfl ?_ rfl rfl ⟨by decide, by decide⟩ ⟨by decide, by decide⟩ (Nat.le_of_ble_eq_true rfl) (nd_two' (by omega)) (fun _ => rfl) (fun u => ?_) (fun u H locs hp hW => ?_)
    · simp only [List.map_append]
      exact app2 (blk_map [] (wCourt k a_no no) (wPast k a_pa pp (g, (mm, cs)) ++ poolW k pp (mm, cs)) 0 12 (by simp only [List.append_assoc, List.nil_append]) rfl rfl)
        (blk_map ((wCourt k a_no no ++ wPast k a_pa pp (g, (mm, cs))) ++ (List.range (g 1).toNatClampNeg).flatMap (fun i => wCourt k (pp i) (cs i))) (wCourt k (pp (g 1).toNatClampNeg) (cs (g 1).toNatClampNeg)) _ _ 12 (by rw [hsp]; simp only [List.append_assoc]; rfl) hlen rfl)
    · show putW _ (_ ++ _) (_ ++ _) = _
      have hlen2 : ((wCourt k a_no u ++ wPast k a_pa pp (g, (mm, cs))) ++ (List.range (g 1).toNatClampNeg).flatMap (fun i => wCourt k (pp i) (cs i))).length = 14 + 12 * (g 1).toNatClampNeg := by
        rw [List.length_append, pool_len]; rfl
      rw [putW_app _ _ _ _ _ rfl, blk_put [] (wCourt k a_no no) (wPast k a_pa pp (g, (mm, cs)) ++ poolW k pp (mm, cs)) (wCourt k a_no u) 0 12 (by simp only [List.append_assoc, List.nil_append]) rfl rfl rfl,
        blk_put ((wCourt k a_no u ++ wPast k a_pa pp (g, (mm, cs))) ++ (List.range (g 1).toNatClampNeg).flatMap (fun i => wCourt k (pp i) (cs i))) (wCourt k (pp (g 1).toNatClampNeg) (cs (g 1).toNatClampNeg)) ((List.range' ((g 1).toNatClampNeg + 1) (mm - (g 1).toNatClampNeg - 1)).flatMap (fun i => wCourt k (pp i) (cs i))) (wCourt k (pp (g 1).toNatClampNeg) (cs (g 1).toNatClampNeg)) _ 12 (by rw [hsp]; simp only [List.append_assoc, List.nil_append]) rfl hlen2 rfl, hsp]
      try simp only [List.append_assoc, List.nil_append]
    cases hp
    exact hret (y, (g, (mm, cs)), pp) _ _ _ _ _ _ hW (Option.some.inj hf).symm (by decide) (by decide) dX3_bringBack_44
  · have hf := oF hi hf
    show W p l e _ s m args below meth c _ _ _ _ Q (F0 m 34 ls [va_rf (if (g 1).toNatClampNeg < mm then some (pp (g 1).toNatClampNeg 0) else none)])
    rw [if_neg hi]
    refine lv_astore_nN (lv' := [(2, .null), (0, .ref (a_pa 0)), (1, .ref (a_no 0))]) E.hx E.hb dX3_bringBack_34 rfl hl (by decide) rfl (fun ls hl => ?_)
    refine lv_aload_nN E.hx E.hb dX3_bringBack_35 rfl (lv_at hl 0 rfl) ?_
    refine lv_ifnullN (tgt := 44) E.hx E.hb dX3_bringBack_36 (by decide) ?_
    exact hret (no, (g, (mm, cs)), pp) _ _ _ _ _ _ hW (Option.some.inj hf).symm (by decide) (by decide) dX3_bringBack_44
set_option maxHeartbeats 4000000 in
set_option maxRecDepth 100000 in
theorem c_X8_saveState (n : Nat) (l : Launch) (k : KT) (a_th a_in a_ou a_ru a_no a_fo a_rd a_pa : Nat → Nat) (sa : Nat → Nat) (th_0 no_0 : OS) (so : Option OS) (res : OS × OS × Int32) (hf : f_X8_saveState n th_0 no_0 so = some res) :
    CG l k yX8_saveState cX8_saveState 1 (some .int) 4 13 2000 200 [.ref (a_th 0)] ((wMCo k a_th (a_in 0) (a_ou 0) (a_ru 0) (a_no 0) (a_fo 0) (a_rd 0) (a_pa 0) (svV sa so) th_0 ++ wCourt k a_no no_0) ++ savW k sa so) (Qi k (fun u : OS × OS × (Nat → Nat) => (wMCo k a_th (a_in 0) (a_ou 0) (a_ru 0) (a_no 0) (a_fo 0) (a_rd 0) (a_pa 0) (svV u.2.2 (some u.2.1)) u.1 ++ wCourt k a_no no_0) ++ savW k u.2.2 (some u.2.1)) (fun (r : Int32) u => res = (u.1, u.2.1, r))) := by
  refine CG.ofI (by decide) (Nat.le_of_ble_eq_true rfl) (fun p e s m args below meth c A Q E hnm hW hA hret ls hl => ?_)
  have hl : lv_has ls 1 [(0, .ref (a_th 0))] := hl
  unfold f_X8_saveState at hf
  obtain ⟨y, hg, hf⟩ := ob hf
  have J : ∀ (sa1 : Nat → Nat) (c1 : OS) (H : Heap) (locs : List Loc) (hg : f_X2_copyFrom n c1 no_0 = some y) (hW : WD k A s.heap ((wMCo k a_th (a_in 0) (a_ou 0) (a_ru 0) (a_no 0) (a_fo 0) (a_rd 0) (a_pa 0) (svV sa1 (some c1)) th_0 ++ wCourt k a_no no_0) ++ wCourt k sa1 c1) H locs), W p l e { frames := 4, cells := 13, slots := 2000, locals := 200 } s m args below meth c H locs 13 2000 Q (F0 m 18 ls []) := by
    intro sa1 c1 H locs hg hW
    refine k_aload_n E hl 0 dX8_saveState_18 rfl ?_
    refine gf_X8_54 (v := .ref (sa1 0)) E hW 0 rfl rfl dX8_saveState_19 ?_
    refine k_aload_n E hl 0 dX8_saveState_22 rfl ?_
    refine gf_X8_31 E hW 0 rfl rfl dX8_saveState_23 ?_
    refine k_callVv (As := [.ref (a_no 0)]) (rest := []) (ws2 := fun u => (wMCo k a_th (a_in 0) (a_ou 0) (a_ru 0) (a_no 0) (a_fo 0) (a_rd 0) (a_pa 0) (svV sa1 (some c1)) th_0 ++ wCourt k a_no no_0) ++ wCourt k sa1 u) (c_X2_copyFrom n l k sa1 a_no c1 no_0 y hg) E vl_X8_90 dX8_saveState_26 rfl (List.range' 13 12 ++ List.range' 1 12) 3 13 hW hA hl rfl ?_ rfl rfl ⟨by decide, by decide⟩ ⟨by decide, by decide⟩ (Nat.le_of_ble_eq_true rfl) rfl (fun _ => rfl) (fun u => ?_) (fun u H locs hp hW => ?_)
    · simp only [List.map_append]
      exact app2 (blk_map (wMCo k a_th (a_in 0) (a_ou 0) (a_ru 0) (a_no 0) (a_fo 0) (a_rd 0) (a_pa 0) (svV sa1 (some c1)) th_0 ++ wCourt k a_no no_0) (wCourt k sa1 c1) [] 13 12 (by simp only [List.append_assoc, List.append_nil]) rfl rfl) (blk_map (wMCo k a_th (a_in 0) (a_ou 0) (a_ru 0) (a_no 0) (a_fo 0) (a_rd 0) (a_pa 0) (svV sa1 (some c1)) th_0) (wCourt k a_no no_0) (wCourt k sa1 c1) 1 12 rfl rfl rfl)
    · show putW _ (_ ++ _) (_ ++ _) = _
      rw [putW_app _ _ _ _ _ rfl, blk_put (wMCo k a_th (a_in 0) (a_ou 0) (a_ru 0) (a_no 0) (a_fo 0) (a_rd 0) (a_pa 0) (svV sa1 (some c1)) th_0 ++ wCourt k a_no no_0) (wCourt k sa1 c1) [] (wCourt k sa1 u) 13 12 (by simp only [List.append_assoc, List.append_nil]) rfl rfl rfl, blk_put (wMCo k a_th (a_in 0) (a_ou 0) (a_ru 0) (a_no 0) (a_fo 0) (a_rd 0) (a_pa 0) (svV sa1 (some c1)) th_0) (wCourt k a_no no_0) (wCourt k sa1 u) (wCourt k a_no no_0) 1 12 (by simp only [List.append_assoc, List.append_nil]) rfl rfl rfl]
    cases hp
    refine k_aload_n E hl 0 dX8_saveState_29 rfl ?_
    refine lv_iconst (v := (1 : Int32)) E.hx E.hb dX8_saveState_30 ic_1 ?_
    refine pf_X8_57 (ws2 := (wMCo k a_th (a_in 0) (a_ou 0) (a_ru 0) (a_no 0) (a_fo 0) (a_rd 0) (a_pa 0) (svV sa1 (some y)) (sI th_0 8 (1 : Int32)) ++ wCourt k a_no no_0) ++ wCourt k sa1 y) E hW 0 rfl (by decide) (by decide) (Nat.le_of_ble_eq_true rfl) dX8_saveState_31 rfl (fun H locs hW => ?_)
    refine k_aload_n E hl 0 dX8_saveState_34 rfl ?_
    refine gf_X8_31 E hW 0 rfl rfl dX8_saveState_35 ?_
    refine gf_X8_108 E hW 1 rfl rfl dX8_saveState_38 ?_
    exact hret _ (sI th_0 8 (1 : Int32), y, sa1) _ _ _ _ _ _ hW (Option.some.inj hf).symm rfl (by decide) (by decide) dX8_saveState_41
  refine k_aload_n E hl 0 dX8_saveState_0 rfl ?_
  cases so with
  | some c1 =>
    refine gf_X8_54 (v := .ref (sa 0)) E hW 0 rfl rfl dX8_saveState_1 ?_
    refine lv_ifnonnull (tgt := 18) E.hx E.hb dX8_saveState_4 (by decide) ?_
    exact W.widen (by decide) (by decide) (J sa c1 _ _ hg hW)
  | none =>
    refine gf_X8_54 (v := .null) E hW 0 rfl rfl dX8_saveState_1 ?_
    refine lv_ifnonnullN E.hx E.hb dX8_saveState_4 ?_
    refine k_aload_n E hl 0 dX8_saveState_7 rfl ?_
    refine nw_X8_28 E hW hA (by decide) (by decide) dX8_saveState_8 (fun q1 H hW => ?_)
    refine lv_dup E.hx E.hb dX8_saveState_11 rfl ?_
    refine k_callNewN (As := []) (rest := [.ref q1, .ref (a_th 0)]) (c_X2_init l k q1) E il_X8_30 dX8_saveState_12 rfl hW hA hl rfl ⟨by decide, by decide⟩ ⟨by decide, by decide⟩ (Nat.le_of_ble_eq_true rfl) (fun u1 H locs _ hW => ?_)
    refine pf_X8_54 (ws2 := (wMCo k a_th (a_in 0) (a_ou 0) (a_ru 0) (a_no 0) (a_fo 0) (a_rd 0) (a_pa 0) (svV (adr q1 u1) (some zOS)) th_0 ++ wCourt k a_no no_0) ++ wCourt k (adr q1 u1) zOS) E hW 0 rfl rfl rfl (Nat.le_of_ble_eq_true rfl) dX8_saveState_15 rfl (fun H locs hW => ?_)
    exact W.widen (by decide) (by decide) (J (adr q1 u1) zOS _ _ hg hW)
set_option maxHeartbeats 4000000 in
set_option maxRecDepth 100000 in
theorem c_X8_restoreState (n : Nat) (l : Launch) (k : KT) (a_th a_in a_ou a_ru a_no a_fo a_rd a_pa : Nat → Nat) (pp_0 : Nat → Nat → Nat) (sa : Nat → Nat) (th_0 no_0 : OS) (pa_0 : PS) (so : Option OS) (res : OS × PS × Int32 × Nat) (hf : f_X8_restoreState n th_0 no_0 pa_0 so = some res) (h0 : res.2.2.2 = 0) :
    CG l k yX8_restoreState cX8_restoreState 1 (some .int) 6 1 6 200 [.ref (a_th 0)] ((wMCo k a_th (a_in 0) (a_ou 0) (a_ru 0) (a_no 0) (a_fo 0) (a_rd 0) (a_pa 0) (svV sa so) th_0 ++ wCourt k a_no no_0 ++ wPast k a_pa pp_0 pa_0) ++ savW k sa so) (Qi k (fun u : OS × PS => (wMCo k a_th (a_in 0) (a_ou 0) (a_ru 0) (a_no 0) (a_fo 0) (a_rd 0) (a_pa 0) (svV sa so) th_0 ++ wCourt k a_no u.1 ++ wPast k a_pa pp_0 u.2) ++ savW k sa so) (fun (r : Int32) u => res = (u.1, u.2, r, 0))) := by
  refine CG.ofI (by decide) (Nat.le_of_ble_eq_true rfl) (fun p e s m args below meth c A Q E hnm hW hA hret ls hl => ?_)
  have hl : lv_has ls 1 [(0, .ref (a_th 0))] := hl
  unfold f_X8_restoreState at hf
  refine k_aload_n E hl 0 dX8_restoreState_0 rfl ?_
  refine gf_X8_57 E hW 0 rfl rfl dX8_restoreState_1 ?_
  refine lv_if_eq (tgt := 14) E.hx E.hb dX8_restoreState_4 (by decide) (fun hc => ?_) (fun hc => ?_)
  · have hf := oT hc hf
    cases hf; exact absurd h0 (show ¬ (3 : Nat) = 0 from by decide)
  · have hf := oF hc hf
    refine k_aload_n E hl 0 dX8_restoreState_7 rfl ?_
    cases so with
    | none =>
      refine gf_X8_54 (v := .null) E hW 0 rfl rfl dX8_restoreState_8 ?_
      refine lv_ifnonnullN E.hx E.hb dX8_restoreState_11 ?_
      cases hf; exact absurd h0 (show ¬ (3 : Nat) = 0 from by decide)
    | some c1 =>
      dsimp only at hf
      obtain ⟨y, hg, hf⟩ := ob hf
      obtain ⟨p1, hg2, hf⟩ := ob hf
      refine gf_X8_54 (v := .ref (sa 0)) E hW 0 rfl rfl dX8_restoreState_8 ?_
      refine lv_ifnonnull (tgt := 25) E.hx E.hb dX8_restoreState_11 (by decide) ?_
      refine k_aload_n E hl 0 dX8_restoreState_25 rfl ?_
      refine gf_X8_31 E hW 0 rfl rfl dX8_restoreState_26 ?_
      refine k_aload_n E hl 0 dX8_restoreState_29 rfl ?_
      refine gf_X8_54 (v := .ref (sa 0)) E hW 0 rfl rfl dX8_restoreState_30 ?_
      refine k_callVv (As := [.ref (sa 0)]) (rest := []) (ws2 := fun u => (wMCo k a_th (a_in 0) (a_ou 0) (a_ru 0) (a_no 0) (a_fo 0) (a_rd 0) (a_pa 0) (svV sa (some c1)) th_0 ++ wCourt k a_no u ++ wPast k a_pa pp_0 pa_0) ++ wCourt k sa c1) (c_X2_copyFrom n l k a_no sa no_0 c1 y hg) E vl_X8_90 dX8_restoreState_33 rfl (List.range' 1 12 ++ List.range' 15 12) 3 1 hW hA hl rfl ?_ rfl rfl ⟨by decide, by decide⟩ ⟨by decide, by decide⟩ (Nat.le_of_ble_eq_true rfl) rfl (fun _ => rfl) (fun u => ?_) (fun u H locs hp hW => ?_)
      · simp only [List.map_append]
        exact app2 (blk_map (wMCo k a_th (a_in 0) (a_ou 0) (a_ru 0) (a_no 0) (a_fo 0) (a_rd 0) (a_pa 0) (svV sa (some c1)) th_0) (wCourt k a_no no_0) (wPast k a_pa pp_0 pa_0 ++ wCourt k sa c1) 1 12 (by simp only [List.append_assoc]; rfl) rfl rfl) (blk_map (wMCo k a_th (a_in 0) (a_ou 0) (a_ru 0) (a_no 0) (a_fo 0) (a_rd 0) (a_pa 0) (svV sa (some c1)) th_0 ++ wCourt k a_no no_0 ++ wPast k a_pa pp_0 pa_0) (wCourt k sa c1) [] 15 12 (by simp only [List.append_assoc, List.append_nil]; rfl) rfl rfl)
      · show putW _ (_ ++ _) (_ ++ _) = _
        rw [putW_app _ _ _ _ _ rfl, blk_put (wMCo k a_th (a_in 0) (a_ou 0) (a_ru 0) (a_no 0) (a_fo 0) (a_rd 0) (a_pa 0) (svV sa (some c1)) th_0) (wCourt k a_no no_0) (wPast k a_pa pp_0 pa_0 ++ wCourt k sa c1) (wCourt k a_no u) 1 12 (by simp only [List.append_assoc]; rfl) rfl rfl rfl, blk_put (wMCo k a_th (a_in 0) (a_ou 0) (a_ru 0) (a_no 0) (a_fo 0) (a_rd 0) (a_pa 0) (svV sa (some c1)) th_0 ++ wCourt k a_no u ++ wPast k a_pa pp_0 pa_0) (wCourt k sa c1) [] (wCourt k sa c1) 15 12 (by simp only [List.append_assoc, List.append_nil]) rfl rfl rfl]
        try simp only [List.append_assoc, List.append_nil]
      cases hp
      refine k_aload_n E hl 0 dX8_restoreState_36 rfl ?_
      refine gf_X8_50 E hW 0 rfl rfl dX8_restoreState_37 ?_
      refine k_callVv (As := []) (rest := []) (ws2 := fun u => (wMCo k a_th (a_in 0) (a_ou 0) (a_ru 0) (a_no 0) (a_fo 0) (a_rd 0) (a_pa 0) (svV sa (some c1)) th_0 ++ wCourt k a_no y ++ wPast k a_pa pp_0 u) ++ wCourt k sa c1) (c_X3_forget n l k a_pa pp_0 pa_0 p1 hg2) E vl_X8_93 dX8_restoreState_40 rfl [13, 14] 4 13 hW hA hl rfl rfl rfl rfl ⟨by decide, by decide⟩ ⟨by decide, by decide⟩ (Nat.le_of_ble_eq_true rfl) rfl (fun _ => rfl) (fun _ => rfl) (fun u H locs hp hW => ?_)
      cases hp
      refine k_aload_n E hl 0 dX8_restoreState_43 rfl ?_
      refine gf_X8_31 E hW 0 rfl rfl dX8_restoreState_44 ?_
      refine gf_X8_108 E hW 1 rfl rfl dX8_restoreState_47 ?_
      exact hret _ (y, p1) _ _ _ _ _ _ hW (Option.some.inj hf).symm rfl (by decide) (by decide) dX8_restoreState_50
