theorem tm_1946 : (Jvm.Cond.methodLink "MemoryCourtModel" (447 : Nat) ({ cls := "MemoryCourtModel", name := "says", desc := "(I)V" } : Jvm.MethodName)) ∈ lw_tbl := List.mem_of_getElem? (i := 1946) (by decide +kernel)
theorem tm_1948 : (Jvm.Cond.instanceMethod ({ cls := "MemoryCourtModel", name := "says", desc := "(I)V" } : Jvm.MethodName)) ∈ lw_tbl := List.mem_of_getElem? (i := 1948) (by decide +kernel)
theorem tms_103 : (Jvm.Cond.selects "MemoryCourtModel" ({ cls := "MemoryCourtModel", name := "says", desc := "(I)V" } : Jvm.MethodName) ({ cls := "MemoryCourtModel", name := "says", desc := "(I)V" } : Jvm.MethodName)) ∈ lw_tbl := List.mem_of_getElem? (i := 103) (by decide +kernel)
theorem tm_1949 : (Jvm.Cond.code ({ cls := "MemoryCourtModel", name := "says", desc := "(I)V" } : Jvm.MethodName) prog_11_method_128_code (2 : Nat) (Option.none : Option Jvm.ClassFile.FieldType)) ∈ lw_tbl := List.mem_of_getElem? (i := 1949) (by decide +kernel)
theorem tm_1941 : (Jvm.Cond.methodLink "MemoryCourtModel" (443 : Nat) ({ cls := "MemoryCourtModel", name := "saysName", desc := "(J)V" } : Jvm.MethodName)) ∈ lw_tbl := List.mem_of_getElem? (i := 1941) (by decide +kernel)
theorem tm_1943 : (Jvm.Cond.instanceMethod ({ cls := "MemoryCourtModel", name := "saysName", desc := "(J)V" } : Jvm.MethodName)) ∈ lw_tbl := List.mem_of_getElem? (i := 1943) (by decide +kernel)
theorem tms_102 : (Jvm.Cond.selects "MemoryCourtModel" ({ cls := "MemoryCourtModel", name := "saysName", desc := "(J)V" } : Jvm.MethodName) ({ cls := "MemoryCourtModel", name := "saysName", desc := "(J)V" } : Jvm.MethodName)) ∈ lw_tbl := List.mem_of_getElem? (i := 102) (by decide +kernel)
theorem tm_1944 : (Jvm.Cond.code ({ cls := "MemoryCourtModel", name := "saysName", desc := "(J)V" } : Jvm.MethodName) prog_11_method_129_code (3 : Nat) (Option.none : Option Jvm.ClassFile.FieldType)) ∈ lw_tbl := List.mem_of_getElem? (i := 1944) (by decide +kernel)
theorem tm_1954 : (Jvm.Cond.methodLink "MemoryCourtModel" (450 : Nat) ({ cls := "MemoryCourtModel", name := "saysNumber", desc := "(I)V" } : Jvm.MethodName)) ∈ lw_tbl := List.mem_of_getElem? (i := 1954) (by decide +kernel)
theorem tm_1956 : (Jvm.Cond.instanceMethod ({ cls := "MemoryCourtModel", name := "saysNumber", desc := "(I)V" } : Jvm.MethodName)) ∈ lw_tbl := List.mem_of_getElem? (i := 1956) (by decide +kernel)
theorem tms_105 : (Jvm.Cond.selects "MemoryCourtModel" ({ cls := "MemoryCourtModel", name := "saysNumber", desc := "(I)V" } : Jvm.MethodName) ({ cls := "MemoryCourtModel", name := "saysNumber", desc := "(I)V" } : Jvm.MethodName)) ∈ lw_tbl := List.mem_of_getElem? (i := 105) (by decide +kernel)
theorem tm_1957 : (Jvm.Cond.code ({ cls := "MemoryCourtModel", name := "saysNumber", desc := "(I)V" } : Jvm.MethodName) prog_11_method_130_code (2 : Nat) (Option.none : Option Jvm.ClassFile.FieldType)) ∈ lw_tbl := List.mem_of_getElem? (i := 1957) (by decide +kernel)
theorem tm_1945 : (Jvm.Cond.constantLong "MemoryCourtModel" (441 : Nat) (31 : Int64)) ∈ lw_tbl := List.mem_of_getElem? (i := 1945) (by decide +kernel)
theorem bp_96 : (Int8.ofInt (96)).toInt32 = (96 : Int32) := by decide
theorem vl_X9_447 : VL RX9 447 RX9 yX9_says cX9_says 2 none 1 := ⟨⟨tm_1946, tm_1948, tms_103, tm_119, tm_1949⟩, by decide +kernel⟩
theorem vl_X9_443 : VL RX9 443 RX9 yX9_saysName cX9_saysName 3 none 1 := ⟨⟨tm_1941, tm_1943, tms_102, tm_119, tm_1944⟩, by decide +kernel⟩
theorem vl_X9_450 : VL RX9 450 RX9 yX9_saysNumber cX9_saysNumber 2 none 1 := ⟨⟨tm_1954, tm_1956, tms_105, tm_119, tm_1957⟩, by decide +kernel⟩
theorem dX9_saysName_0 : decode cX9_saysName 0 = .ok (.lload_n 1, 1) := by decide +kernel
theorem dX9_saysName_1 : decode cX9_saysName 1 = .ok (.ldc2_w 441, 3) := by decide +kernel
theorem dX9_saysName_4 : decode cX9_saysName 4 = .ok (.lcmp, 1) := by decide +kernel
theorem dX9_saysName_5 : decode cX9_saysName 5 = .ok (.ifCond .le 10, 3) := by decide +kernel
theorem dX9_saysName_8 : decode cX9_saysName 8 = .ok (.aload_n 0, 1) := by decide +kernel
theorem dX9_saysName_9 : decode cX9_saysName 9 = .ok (.lload_n 1, 1) := by decide +kernel
theorem dX9_saysName_10 : decode cX9_saysName 10 = .ok (.iconst 5, 1) := by decide +kernel
theorem dX9_saysName_11 : decode cX9_saysName 11 = .ok (.lshr, 1) := by decide +kernel
theorem dX9_saysName_12 : decode cX9_saysName 12 = .ok (.invokevirtual 443, 3) := by decide +kernel
theorem dX9_saysName_15 : decode cX9_saysName 15 = .ok (.aload_n 0, 1) := by decide +kernel
theorem dX9_saysName_16 : decode cX9_saysName 16 = .ok (.lload_n 1, 1) := by decide +kernel
theorem dX9_saysName_17 : decode cX9_saysName 17 = .ok (.ldc2_w 441, 3) := by decide +kernel
theorem dX9_saysName_20 : decode cX9_saysName 20 = .ok (.land, 1) := by decide +kernel
theorem dX9_saysName_21 : decode cX9_saysName 21 = .ok (.l2i, 1) := by decide +kernel
theorem dX9_saysName_22 : decode cX9_saysName 22 = .ok (.bipush 96, 2) := by decide +kernel
theorem dX9_saysName_24 : decode cX9_saysName 24 = .ok (.iadd, 1) := by decide +kernel
theorem dX9_saysName_25 : decode cX9_saysName 25 = .ok (.invokevirtual 447, 3) := by decide +kernel
theorem dX9_saysName_28 : decode cX9_saysName 28 = .ok (.return_, 1) := by decide +kernel
theorem dX9_saysNumber_0 : decode cX9_saysNumber 0 = .ok (.iload_n 1, 1) := by decide +kernel
theorem dX9_saysNumber_1 : decode cX9_saysNumber 1 = .ok (.bipush 9, 2) := by decide +kernel
theorem dX9_saysNumber_3 : decode cX9_saysNumber 3 = .ok (.if_icmp .le 11, 3) := by decide +kernel
theorem dX9_saysNumber_6 : decode cX9_saysNumber 6 = .ok (.aload_n 0, 1) := by decide +kernel
theorem dX9_saysNumber_7 : decode cX9_saysNumber 7 = .ok (.iload_n 1, 1) := by decide +kernel
theorem dX9_saysNumber_8 : decode cX9_saysNumber 8 = .ok (.bipush 10, 2) := by decide +kernel
theorem dX9_saysNumber_10 : decode cX9_saysNumber 10 = .ok (.idiv, 1) := by decide +kernel
theorem dX9_saysNumber_11 : decode cX9_saysNumber 11 = .ok (.invokevirtual 450, 3) := by decide +kernel
theorem dX9_saysNumber_14 : decode cX9_saysNumber 14 = .ok (.aload_n 0, 1) := by decide +kernel
theorem dX9_saysNumber_15 : decode cX9_saysNumber 15 = .ok (.bipush 48, 2) := by decide +kernel
theorem dX9_saysNumber_17 : decode cX9_saysNumber 17 = .ok (.iload_n 1, 1) := by decide +kernel
theorem dX9_saysNumber_18 : decode cX9_saysNumber 18 = .ok (.bipush 10, 2) := by decide +kernel
theorem dX9_saysNumber_20 : decode cX9_saysNumber 20 = .ok (.irem, 1) := by decide +kernel
theorem dX9_saysNumber_21 : decode cX9_saysNumber 21 = .ok (.iadd, 1) := by decide +kernel
theorem dX9_saysNumber_22 : decode cX9_saysNumber 22 = .ok (.invokevirtual 447, 3) := by decide +kernel
theorem dX9_saysNumber_25 : decode cX9_saysNumber 25 = .ok (.return_, 1) := by decide +kernel
def f_X9_saysName (n : Nat) : Nat → OS → Int64 → Option OS
  | 0 => fun _ _ => none
  | d + 1 => fun th v => if (lg_cmp v (31 : Int64)) ≤ 0 then f_X9_says n th ((v &&& (31 : Int64)).toInt32 + (96 : Int32)) else bnd (f_X9_saysName n d th (v >>> ((5 : Int32).toInt64 &&& 63))) (fun (t : OS) => f_X9_says n t ((v &&& (31 : Int64)).toInt32 + (96 : Int32)))
set_option maxHeartbeats 4000000 in
set_option maxRecDepth 100000 in
theorem c_X9_saysName (n : Nat) (l : Launch) (k : KT) (a_th : Nat → Nat) : ∀ (d : Nat) (th : OS) (v : Int64) (res : OS), f_X9_saysName n d th v = some res → CG l k yX9_saysName cX9_saysName 3 none d 0 0 (22 * d) [.ref (a_th 0), .long v] (wModel k a_th th) (Qv k (fun u : OS => wModel k a_th u) (fun u => res = u)) := by
  intro d
  induction d with
  | zero => intro th v res hf; exact o0 hf
  | succ d ih =>
    intro th v res hf
    refine CG.ofV (by decide) (Nat.le_of_ble_eq_true rfl) (fun p e s m args below meth c A Q E hnm hW hA hret ls hl => ?_)
    have hl : lv_has ls 3 [(0, .ref (a_th 0)), (1, .long v)] := hl
    have J : ∀ (th1 : OS) (H : Heap) (locs : List Loc) (hg : f_X9_says n th1 ((v &&& (31 : Int64)).toInt32 + (96 : Int32)) = some res) (hW : WD k A s.heap (wModel k a_th th1) H locs), W p l e { frames := d + 1, cells := 0, slots := 0, locals := 22 * (d + 1) } s m args below meth c H locs 0 0 Q (F0 m 15 ls []) := by
      intro th1 H locs hg hW
      refine k_aload_n E hl 0 dX9_saysName_15 rfl ?_
      refine k_lload_n E hl 1 dX9_saysName_16 rfl ?_
      refine lv_ldc2 E.hx E.hb E.ho (E.w tm_1945 rfl) dX9_saysName_17 ?_
      refine lv_land E.hx E.hb dX9_saysName_20 ?_
      refine lv_l2i (v := (v &&& (31 : Int64)).toInt32) E.hx E.hb dX9_saysName_21 rfl ?_
      refine lv_bipush (v := (96 : Int32)) E.hx E.hb dX9_saysName_22 bp_96 ?_
      refine lv_iadd E.hx E.hb dX9_saysName_24 ?_
      refine k_callVv (As := [.int ((v &&& (31 : Int64)).toInt32 + (96 : Int32))]) (rest := []) (ws2 := fun u => wModel k a_th u) (c_X9_says n l k a_th th1 ((v &&& (31 : Int64)).toInt32 + (96 : Int32)) res hg) E vl_X9_447 dX9_saysName_25 rfl [0, 1, 2, 3, 4, 5, 6, 7, 8, 9, 10, 11, 12] 7 0 hW hA hl rfl rfl rfl rfl ⟨by show 0 + 1 ≤ d + 1; omega, by show 8 + (2 + 11) + 0 ≤ 22 * (d + 1); omega⟩ ⟨Nat.le_refl _, Nat.le_refl _⟩ (Nat.le_of_ble_eq_true rfl) rfl (fun _ => rfl) (fun _ => rfl) (fun u H locs hp hW => ?_)
      cases hp
      exact hret res _ _ _ _ _ _ hW rfl (Nat.le_refl _) (Nat.le_refl _) dX9_saysName_28
    have hf : (if (lg_cmp v (31 : Int64)) ≤ 0 then f_X9_says n th ((v &&& (31 : Int64)).toInt32 + (96 : Int32)) else bnd (f_X9_saysName n d th (v >>> ((5 : Int32).toInt64 &&& 63))) (fun (t : OS) => f_X9_says n t ((v &&& (31 : Int64)).toInt32 + (96 : Int32)))) = some res := hf
    refine k_lload_n E hl 1 dX9_saysName_0 rfl ?_
    refine lv_ldc2 E.hx E.hb E.ho (E.w tm_1945 rfl) dX9_saysName_1 ?_
    refine W.lcmp E.hx E.hb dX9_saysName_4 ?_
    refine lv_if_le (tgt := 15) E.hx E.hb dX9_saysName_5 (by decide) (fun hc => ?_) (fun hc => ?_)
    · exact J th _ _ (oT hc hf) hW
    · have hf := oF hc hf
      obtain ⟨t1, hg, hf⟩ := ob hf
      refine k_aload_n E hl 0 dX9_saysName_8 rfl ?_
      refine k_lload_n E hl 1 dX9_saysName_9 rfl ?_
      refine lv_iconst (v := (5 : Int32)) E.hx E.hb dX9_saysName_10 ic_5 ?_
      refine lv_lshr (v := (v >>> ((5 : Int32).toInt64 &&& 63))) E.hx E.hb dX9_saysName_11 rfl ?_
      refine k_callVv (As := [.long (v >>> ((5 : Int32).toInt64 &&& 63))]) (rest := []) (ws2 := fun u => wModel k a_th u) (ih th (v >>> ((5 : Int32).toInt64 &&& 63)) t1 hg) E vl_X9_443 dX9_saysName_12 rfl [0, 1, 2, 3, 4, 5, 6, 7, 8, 9, 10, 11, 12] 7 0 hW hA hl rfl rfl rfl rfl ⟨Nat.le_refl _, by show 8 + (3 + 11) + 22 * d ≤ 22 * (d + 1); omega⟩ ⟨Nat.le_refl _, Nat.le_refl _⟩ (Nat.le_of_ble_eq_true rfl) rfl (fun _ => rfl) (fun _ => rfl) (fun u H locs hp hW => ?_)
      cases hp
      exact J t1 _ _ hf hW
def f_X9_saysNumber (n : Nat) : Nat → OS → Int32 → Option OS
  | 0 => fun _ _ => none
  | d + 1 => fun th v => if v ≤ (9 : Int32) then f_X9_says n th ((48 : Int32) + (rm32 v (10 : Int32))) else bnd (f_X9_saysNumber n d th (v / (10 : Int32))) (fun (t : OS) => f_X9_says n t ((48 : Int32) + (rm32 v (10 : Int32))))
set_option maxHeartbeats 4000000 in
set_option maxRecDepth 100000 in
theorem c_X9_saysNumber (n : Nat) (l : Launch) (k : KT) (a_th : Nat → Nat) : ∀ (d : Nat) (th : OS) (v : Int32) (res : OS), f_X9_saysNumber n d th v = some res → CG l k yX9_saysNumber cX9_saysNumber 2 none d 0 0 (22 * d) [.ref (a_th 0), .int v] (wModel k a_th th) (Qv k (fun u : OS => wModel k a_th u) (fun u => res = u)) := by
  intro d
  induction d with
  | zero => intro th v res hf; exact o0 hf
  | succ d ih =>
    intro th v res hf
    refine CG.ofV (by decide) (Nat.le_of_ble_eq_true rfl) (fun p e s m args below meth c A Q E hnm hW hA hret ls hl => ?_)
    have hl : lv_has ls 2 [(0, .ref (a_th 0)), (1, .int v)] := hl
    have J : ∀ (th1 : OS) (H : Heap) (locs : List Loc) (hg : f_X9_says n th1 ((48 : Int32) + (rm32 v (10 : Int32))) = some res) (hW : WD k A s.heap (wModel k a_th th1) H locs), W p l e { frames := d + 1, cells := 0, slots := 0, locals := 22 * (d + 1) } s m args below meth c H locs 0 0 Q (F0 m 14 ls []) := by
      intro th1 H locs hg hW
      refine k_aload_n E hl 0 dX9_saysNumber_14 rfl ?_
      refine lv_bipush (v := (48 : Int32)) E.hx E.hb dX9_saysNumber_15 bp_48 ?_
      refine k_iload_n E hl 1 dX9_saysNumber_17 rfl ?_
      refine lv_bipush (v := (10 : Int32)) E.hx E.hb dX9_saysNumber_18 bp_10 ?_
      refine lv_irem E.hx E.hb dX9_saysNumber_20 (by decide) ?_
      refine lv_iadd E.hx E.hb dX9_saysNumber_21 ?_
      refine k_callVv (As := [.int ((48 : Int32) + (rm32 v (10 : Int32)))]) (rest := []) (ws2 := fun u => wModel k a_th u) (c_X9_says n l k a_th th1 ((48 : Int32) + (rm32 v (10 : Int32))) res hg) E vl_X9_447 dX9_saysNumber_22 rfl [0, 1, 2, 3, 4, 5, 6, 7, 8, 9, 10, 11, 12] 7 0 hW hA hl rfl rfl rfl rfl ⟨by show 0 + 1 ≤ d + 1; omega, by show 8 + (2 + 11) + 0 ≤ 22 * (d + 1); omega⟩ ⟨Nat.le_refl _, Nat.le_refl _⟩ (Nat.le_of_ble_eq_true rfl) rfl (fun _ => rfl) (fun _ => rfl) (fun u H locs hp hW => ?_)
      cases hp
      exact hret res _ _ _ _ _ _ hW rfl (Nat.le_refl _) (Nat.le_refl _) dX9_saysNumber_25
    have hf : (if v ≤ (9 : Int32) then f_X9_says n th ((48 : Int32) + (rm32 v (10 : Int32))) else bnd (f_X9_saysNumber n d th (v / (10 : Int32))) (fun (t : OS) => f_X9_says n t ((48 : Int32) + (rm32 v (10 : Int32))))) = some res := hf
    refine k_iload_n E hl 1 dX9_saysNumber_0 rfl ?_
    refine lv_bipush (v := (9 : Int32)) E.hx E.hb dX9_saysNumber_1 bp_9 ?_
    refine lv_icmp_le (tgt := 14) E.hx E.hb dX9_saysNumber_3 (by decide) (fun hc => ?_) (fun hc => ?_)
    · exact J th _ _ (oT hc hf) hW
    · have hf := oF hc hf
      obtain ⟨t1, hg, hf⟩ := ob hf
      refine k_aload_n E hl 0 dX9_saysNumber_6 rfl ?_
      refine k_iload_n E hl 1 dX9_saysNumber_7 rfl ?_
      refine lv_bipush (v := (10 : Int32)) E.hx E.hb dX9_saysNumber_8 bp_10 ?_
      refine lv_idiv E.hx E.hb dX9_saysNumber_10 (by decide) ?_
      refine k_callVv (As := [.int (v / (10 : Int32))]) (rest := []) (ws2 := fun u => wModel k a_th u) (ih th (v / (10 : Int32)) t1 hg) E vl_X9_450 dX9_saysNumber_11 rfl [0, 1, 2, 3, 4, 5, 6, 7, 8, 9, 10, 11, 12] 7 0 hW hA hl rfl rfl rfl rfl ⟨Nat.le_refl _, by show 8 + (2 + 11) + 22 * d ≤ 22 * (d + 1); omega⟩ ⟨Nat.le_refl _, Nat.le_refl _⟩ (Nat.le_of_ble_eq_true rfl) rfl (fun _ => rfl) (fun _ => rfl) (fun u H locs hp hW => ?_)
      cases hp
      exact J t1 _ _ hf hW
/-! methods that answer a double or a float -/
abbrev Qd {S : Type} (k : KT) (W1 : S → va_W) (post : UInt64 → S → Prop) : (Nat → Prop) → Array Value → State → Outcome → State → Prop := fun A => va_Qd post (fun u t => Bpost k A (W1 u) t) A
abbrev Qf {S : Type} (k : KT) (W1 : S → va_W) (post : UInt32 → S → Prop) : (Nat → Prop) → Array Value → State → Outcome → State → Prop := fun A => va_Qf post (fun u t => Bpost k A (W1 u) t) A
theorem CG.ofD {l : Launch} {k : KT} {y : MethodName} {cc : ByteArray} {mx fr mc ms loc : Nat} {av : List Value} {W0 : va_W} {S : Type} {W1 : S → va_W} {post : UInt64 → S → Prop} (hy : plainName y.cls = true) (hlen : (lg_sl av).length ≤ mx)
    (body : ∀ (p : Program) (e : Env) (s : State) (m : MethodId) (args : Array Value) (below : List Frame) (meth : Method) (c : Code) (A : Nat → Prop) (Q : State → Prop), E0 p s m c cc mx y.cls k A → meth.name = y.name → WD k A s.heap W0 s.heap [] → (∀ q : Nat, s.heap.size ≤ q → A q) →
      (∀ (v : UInt64) (u : S) (H : Heap) (locs : List Loc) (cells slots pc : Nat) (ls : Array Slot), WD k A s.heap (W1 u) H locs → post v u → cells ≤ mc → slots ≤ ms → decode cc pc = .ok (.dreturn, 1) → W p l e { frames := fr, cells := mc, slots := ms, locals := loc } s m args below meth c H locs cells slots Q (F0 m pc ls [.double v])) →
      ∀ ls : Array Slot, lv_has ls mx (lv_args 0 av) → W p l e { frames := fr, cells := mc, slots := ms, locals := loc } s m args below meth c s.heap [] 0 0 Q (F0 m 0 ls [])) : CG l k y cc mx (some .double) fr mc ms loc av W0 (Qd k W1 post) :=
  CG.of hy hlen (fun p e s m args below meth c A E hr hlk hnm hW hA ls hl => body p e s m args below meth c A _ E hnm hW hA (fun v u H locs cells slots pc ls hW hp h1 h2 hdg =>
    W.widen h1 h2 (W.dret E.hx E.hb hr (fun t ht hw => ⟨⟨v, u, rfl, hp, by rw [ht]; exact hW.1, hW.2.1⟩, hW.2.2.F ht⟩) hW.2.2.2.2 hdg hlk)) ls hl)
theorem CG.ofFl {l : Launch} {k : KT} {y : MethodName} {cc : ByteArray} {mx fr mc ms loc : Nat} {av : List Value} {W0 : va_W} {S : Type} {W1 : S → va_W} {post : UInt32 → S → Prop} (hy : plainName y.cls = true) (hlen : (lg_sl av).length ≤ mx)
    (body : ∀ (p : Program) (e : Env) (s : State) (m : MethodId) (args : Array Value) (below : List Frame) (meth : Method) (c : Code) (A : Nat → Prop) (Q : State → Prop), E0 p s m c cc mx y.cls k A → meth.name = y.name → WD k A s.heap W0 s.heap [] → (∀ q : Nat, s.heap.size ≤ q → A q) →
      (∀ (v : UInt32) (u : S) (H : Heap) (locs : List Loc) (cells slots pc : Nat) (ls : Array Slot), WD k A s.heap (W1 u) H locs → post v u → cells ≤ mc → slots ≤ ms → decode cc pc = .ok (.freturn, 1) → W p l e { frames := fr, cells := mc, slots := ms, locals := loc } s m args below meth c H locs cells slots Q (F0 m pc ls [.float v])) →
      ∀ ls : Array Slot, lv_has ls mx (lv_args 0 av) → W p l e { frames := fr, cells := mc, slots := ms, locals := loc } s m args below meth c s.heap [] 0 0 Q (F0 m 0 ls [])) : CG l k y cc mx (some .float) fr mc ms loc av W0 (Qf k W1 post) :=
  CG.of hy hlen (fun p e s m args below meth c A E hr hlk hnm hW hA ls hl => body p e s m args below meth c A _ E hnm hW hA (fun v u H locs cells slots pc ls hW hp h1 h2 hdg =>
    W.widen h1 h2 (W.fret E.hx E.hb hr (fun t ht hw => ⟨⟨v, u, rfl, hp, by rw [ht]; exact hW.1, hW.2.1⟩, hW.2.2.F ht⟩) hW.2.2.2.2 hdg hlk)) ls hl)
def nN64 {β : Type} (x : UInt64) (o : Option β) : Option β := if x &&& 0x7fffffffffffffff ≤ 0x7ff0000000000000 then o else none
def nN32 {β : Type} (x : UInt32) (o : Option β) : Option β := if x &&& 0x7fffffff ≤ 0x7f800000 then o else none
theorem oNN64 {β : Type} {x : UInt64} {o : Option β} {r : β} (h : nN64 x o = some r) : vf_n64 x ∧ o = some r := by
  unfold nN64 at h
  split at h
  · exact ⟨by assumption, h⟩
  · cases h
theorem oNN32 {β : Type} {x : UInt32} {o : Option β} {r : β} (h : nN32 x o = some r) : vf_n32 x ∧ o = some r := by
  unfold nN32 at h
  split at h
  · exact ⟨by assumption, h⟩
  · cases h
