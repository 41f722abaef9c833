def bnd5 {α1 α2 α3 α4 α5 β : Type} (o : Option (α1 × α2 × α3 × α4 × α5)) (f : α1 → α2 → α3 → α4 → α5 → Option β) : Option β := o.bind (fun x => f x.1 x.2.1 x.2.2.1 x.2.2.2.1 x.2.2.2.2)
theorem ob5 {α1 α2 α3 α4 α5 β : Type} {o : Option (α1 × α2 × α3 × α4 × α5)} {f : α1 → α2 → α3 → α4 → α5 → Option β} {r : β} (h : bnd5 o f = some r) : ∃ x y z w v, o = some (x, y, z, w, v) ∧ f x y z w v = some r := by
  cases o with
  | none => cases h
  | some x => exact ⟨x.1, x.2.1, x.2.2.1, x.2.2.2.1, x.2.2.2.2, rfl, h⟩
/-! the past: its ring of courts, made when they are needed first -/
abbrev PS : Type := (Nat → Int32) × (Nat × (Nat → OS))
def pI (c : PS) (j : Nat) (v : Int32) : PS := (upd c.1 j v, c.2)
def poolW (k : KT) (pp : Nat → Nat → Nat) (P : Nat × (Nat → OS)) : va_W := (List.range P.1).flatMap (fun i => wCourt k (pp i) (P.2 i))
def wMCo (k : KT) (a : Nat → Nat) (x_input : Nat) (x_output : Nat) (x_rules : Nat) (x_now : Nat) (x_forecast : Nat) (x_reader : Nat) (x_past : Nat) (sv : Value) (c : OS) : va_W := [(a 0, .inr (8, [.ref x_input, .ref x_output, .ref x_rules, .ref x_now, .ref x_forecast, .ref x_reader, .ref x_past, sv, .int (c.1 8)]))]
def wPast (k : KT) (a : Nat → Nat) (pp : Nat → Nat → Nat)   (c : PS) : va_W := [(a 0, .inr (4, [.ref (a 1), .int (c.1 1), .int (c.1 2)])), (a 1, .inl (k.2.1.1 3, 8, .inr (.inr (.inr (.inr (fun i => if i < c.2.1 then some (pp i 0) else none))))))]
/-- a callee whose last cells may grow in number -/
theorem call_frameG {k : KT} {A : Nat → Prop} {X tail cx cx1 tail1 : va_W} {H H1 : Heap} (hP : va_P k.1 vwCl (X ++ tail) H) (hD : va_D A (X ++ tail)) (isC : List Nat) (hC : isC.map (fun i => X[i]?) = cx.map some) (hf : cx1.map Prod.fst = cx.map Prod.fst)
    (hfree : ∀ q, va_A (cx ++ tail) H.size q → A q) (hk : ∀ q : Nat, q < H.size → ¬ va_A (cx ++ tail) H.size q → H1[q]? = H[q]?) (hP1 : va_P k.1 vwCl (cx1 ++ tail1) H1) (hD1 : va_D (va_A (cx ++ tail) H.size) (cx1 ++ tail1)) : va_P k.1 vwCl (putW X isC cx1 ++ tail1) H1 ∧ va_D A (putW X isC cx1 ++ tail1) := by
  have hl0 : isC.length = cx.length := by simpa using congrArg List.length hC
  have hl1 : cx1.length = cx.length := by simpa using congrArg List.length hf
  have hat : ∀ (i j : Nat), isC[i]? = some j → ∃ q0, cx[i]? = some q0 ∧ X[j]? = some q0 := by
    intro i j hi
    have h1 : (isC.map (fun i => X[i]?))[i]? = some (X[j]?) := by rw [List.getElem?_map, hi]; rfl
    rw [hC, List.getElem?_map] at h1
    cases hq : cx[i]? with
    | none => rw [hq] at h1; cases h1
    | some q0 => rw [hq] at h1; exact ⟨q0, rfl, (Option.some.inj h1).symm⟩
  have hfst : ∀ (i : Nat) (q : Nat × va_E), cx1[i]? = some q → ∃ q0, cx[i]? = some q0 ∧ q0.1 = q.1 := by
    intro i q hq
    have h1 : (cx1.map Prod.fst)[i]? = some q.1 := by rw [List.getElem?_map, hq]; rfl
    rw [hf, List.getElem?_map] at h1
    cases hq0 : cx[i]? with
    | none => rw [hq0] at h1; cases h1
    | some q0 => rw [hq0] at h1; exact ⟨q0, rfl, Option.some.inj h1⟩
  have inX : ∀ {j : Nat} {q : Nat × va_E}, X[j]? = some q → (X ++ tail)[j]? = some q := fun h => by
    rw [List.getElem?_append_left (List.getElem?_eq_some_iff.mp h).1]; exact h
  have inT : ∀ {j : Nat} {q : Nat × va_E}, tail[j]? = some q → (X ++ tail)[X.length + j]? = some q := fun h => by
    rw [List.getElem?_append_right (Nat.le_add_right _ _), Nat.add_sub_cancel_left]; exact h
  have in1 : ∀ {j : Nat} {q : Nat × va_E}, cx1[j]? = some q → (cx1 ++ tail1)[j]? = some q := fun h => by
    rw [List.getElem?_append_left (List.getElem?_eq_some_iff.mp h).1]; exact h
  have in2 : ∀ {j : Nat} {q : Nat × va_E}, tail1[j]? = some q → (cx1 ++ tail1)[cx1.length + j]? = some q := fun h => by
    rw [List.getElem?_append_right (Nat.le_add_right _ _), Nat.add_sub_cancel_left]; exact h
  -- an old cell of X that isn't handed over is none of the callee's
  have apart : ∀ (j : Nat) (q : Nat × va_E), X[j]? = some q → j ∉ isC → q.1 < H.size ∧ ¬ va_A (cx ++ tail) H.size q.1 := by
    intro j q hq hj
    have hlt := (hP j q (inX hq)).lt
    refine ⟨hlt, fun hA => ?_⟩
    rcases hA with ⟨i, e, h3⟩ | h3
    · rcases Nat.lt_or_ge i cx.length with hi | hi
      · rw [List.getElem?_append_left hi] at h3
        have hi2 : i < isC.length := by rw [hl0]; exact hi
        obtain ⟨q0, g1, g2⟩ := hat i (isC[i]) (List.getElem?_eq_getElem hi2)
        cases g1.symm.trans h3
        have := hD.1 j (isC[i]) q (q.1, e) (inX hq) (inX g2) rfl
        exact hj (by rw [this]; exact List.getElem_mem hi2)
      · rw [List.getElem?_append_right hi] at h3
        have := hD.1 j _ q (q.1, e) (inX hq) (inT h3) rfl
        have hj2 : j < X.length := (List.getElem?_eq_some_iff.mp hq).1
        omega
    · exact absurd hlt (Nat.not_lt.mpr h3)
  have key : ∀ (j : Nat) (q : Nat × va_E), (putW X isC cx1)[j]? = some q → va_at k.1 vwCl q H1 ∧ (∃ q0, X[j]? = some q0 ∧ q0.1 = q.1) ∧ ((∃ i : Nat, isC[i]? = some j ∧ cx1[i]? = some q) ∨ (j ∉ isC ∧ X[j]? = some q)) := by
    intro j q h
    rcases putW_at isC cx1 X (hl0.trans hl1.symm) j q h with ⟨i, h1, h2⟩ | ⟨h1, h2⟩
    · obtain ⟨q0, g1, g2⟩ := hat i j h1
      obtain ⟨q0', g3, g4⟩ := hfst i q h2
      cases g1.symm.trans g3
      exact ⟨hP1 i q (in1 h2), ⟨q0, g2, g4⟩, Or.inl ⟨i, h1, h2⟩⟩
    · exact ⟨(hP j q (inX h2)).kept (hk q.1 (apart j q h2 h1).1 (apart j q h2 h1).2), ⟨q, h2, rfl⟩, Or.inr ⟨h1, h2⟩⟩
  refine ⟨va_P.app (fun j q h => (key j q h).1) (fun j q h => hP1 _ q (in2 h)), va_D.app ⟨fun i j x y hx hy hxy => ?_, fun j q h => ?_⟩ ⟨fun i j x y hx hy hxy => ?_, fun j q h => ?_⟩ (fun i j x y hx hy hxy => ?_)⟩
  · obtain ⟨-, ⟨x0, g1, g2⟩, -⟩ := key i x hx
    obtain ⟨-, ⟨y0, g3, g4⟩, -⟩ := key j y hy
    exact hD.1 i j x0 y0 (inX g1) (inX g3) (by rw [g2, g4]; exact hxy)
  · obtain ⟨-, ⟨x0, g1, g2⟩, -⟩ := key j q h
    rw [← g2]
    exact hD.2 j x0 (inX g1)
  · have := hD1.1 _ _ x y (in2 hx) (in2 hy) hxy
    omega
  · exact hfree _ (hD1.2 _ q (in2 h))
  · obtain ⟨-, -, hcase⟩ := key i x hx
    rcases hcase with ⟨i2, h1, h2⟩ | ⟨h1, h2⟩
    · have := hD1.1 _ _ x y (in1 h2) (in2 hy) hxy
      have h3 : i2 < cx1.length := (List.getElem?_eq_some_iff.mp h2).1
      omega
    · exact (apart i x h2 h1).2 (by rw [hxy]; exact hD1.2 _ y (in2 hy))
theorem pre_callG {p : Program} {s : State} {m : MethodId} {c : Code} {H : Heap} {locs : List Loc} {cc : ByteArray} {nL : Nat} {k : KT} {A : Nat → Prop} {own : String} {X tail cx : va_W} (E : E0 p s m c cc nL own k A) (hW : WD k A s.heap (X ++ tail) H locs) (hA : ∀ q : Nat, s.heap.size ≤ q → A q) (isC : List Nat) (hC : isC.map (fun i => X[i]?) = cx.map some) (hnd : va_nd isC = true) :
    (∀ q, va_A (cx ++ tail) H.size q → A q) ∧ ∀ U : State, U.heap = H → s.WarmedH U.vm → Bpre k (cx ++ tail) H.size U := by
  have hin : ∀ (i : Nat) (q : Nat × va_E), (cx ++ tail)[i]? = some q → ∃ j, (X ++ tail)[j]? = some q ∧ ((i < cx.length ∧ isC[i]? = some j) ∨ (cx.length ≤ i ∧ j = X.length + (i - cx.length))) := by
    intro i q h
    rcases Nat.lt_or_ge i cx.length with hi | hi
    · rw [List.getElem?_append_left hi] at h
      have h1 : (isC.map (fun i => X[i]?))[i]? = some (some q) := by rw [hC, List.getElem?_map, h]; rfl
      rw [List.getElem?_map] at h1
      cases hq : isC[i]? with
      | none => rw [hq] at h1; cases h1
      | some j =>
        rw [hq] at h1
        have h2 : X[j]? = some q := Option.some.inj h1
        exact ⟨j, by rw [List.getElem?_append_left (List.getElem?_eq_some_iff.mp h2).1]; exact h2, Or.inl ⟨hi, rfl⟩⟩
    · rw [List.getElem?_append_right hi] at h
      exact ⟨X.length + (i - cx.length), by rw [List.getElem?_append_right (Nat.le_add_right _ _), Nat.add_sub_cancel_left]; exact h, Or.inr ⟨hi, rfl⟩⟩
  have hfree : ∀ q, va_A (cx ++ tail) H.size q → A q := by
    intro q h
    rcases h with ⟨i, e, h⟩ | h
    · obtain ⟨j, hj, -⟩ := hin i (q, e) h
      exact hW.2.1.2 j (q, e) hj
    · exact hA q (Nat.le_trans hW.2.2.1 h)
  have hX : ∀ (i j : Nat), isC[i]? = some j → j < X.length := by
    intro i j hi
    have h1 : (isC.map (fun i => X[i]?))[i]? = some (X[j]?) := by rw [List.getElem?_map, hi]; rfl
    rw [hC, List.getElem?_map] at h1
    cases hq : cx[i]? with
    | none => rw [hq] at h1; cases h1
    | some q0 => rw [hq] at h1; exact (List.getElem?_eq_some_iff.mp (Option.some.inj h1).symm).1
  refine ⟨hfree, fun U hU hw => ⟨by rw [hU], ?_, va_K.moved hw.alike E.hK, TB.warm hw E.tb, E.ok, ?_, ?_⟩⟩
  · rw [hU]
    intro i q h
    obtain ⟨j, hj, -⟩ := hin i q h
    exact hW.1 j q hj
  · rw [hU]
    exact E.ok.2.2.1 A _ U H hfree (E.ok.2.1 A U s.heap H hW.2.2.2.1 (E.ok.1 A s U s.heap hw E.sf))
  · refine ⟨fun i i2 x y hx hy hxy => ?_, fun _ _ _ => trivial⟩
    obtain ⟨j, hj, hc⟩ := hin i x hx
    obtain ⟨j2, hj2, hc2⟩ := hin i2 y hy
    have hjj := hW.2.1.1 j j2 x y hj hj2 hxy
    subst hjj
    rcases hc with ⟨a1, a2⟩ | ⟨a1, a2⟩ <;> rcases hc2 with ⟨b1, b2⟩ | ⟨b1, b2⟩
    · exact va_nd_inj isC hnd i i2 j a2 b2
    · have := hX i j a2; omega
    · have := hX i2 j b2; omega
    · omega
section KG
variable {p : Program} {l : Launch} {e : Env} {R : Room} {s : State} {m : MethodId} {args : Array Value} {below : List Frame} {meth : Method} {c : Code} {H : Heap} {locs : List Loc} {cells slots : Nat} {Q : State → Prop}
variable {cc : ByteArray} {pc nL : Nat} {ls : Array Slot} {rest : List Value} {k : KT} {A : Nat → Prop} {X tail cx : va_W} {H0 : Heap} {own : String} {a : Nat}
theorem k_callGv {C : String} {index mx n fr mc ms loc : Nat} {y : MethodName} {bytes : ByteArray} {ret : Option FieldType} {S : Type} {cx1 tail1 : S → va_W} {post : S → Prop} {As : List Value} {lv : List (Nat × Value)} {st0 : List Value} {fs : List Value} {T : u_T} {N : Nat}
    (hM : CG l k y bytes mx ret fr mc ms loc (.ref a :: As) (cx ++ tail) (Qv k (fun u => cx1 u ++ tail1 u) post)) (E : E0 p s m c cc nL own k A) (hV : VL own index C y bytes mx ret n) (hdg : decode cc pc = .ok (.invokevirtual index, 3)) (hst : st0 = As.reverse ++ .ref a :: rest) (isC : List Nat) (ci q0 : Nat)
    (hW : WD k A s.heap (X ++ tail) H locs) (hA : ∀ q : Nat, s.heap.size ≤ q → A q) (hl : lv_has ls nL lv) (hn : As.length = n) (hC : isC.map (fun i => X[i]?) = cx.map some) (hc : vwCl[ci]? = some (C, T, N)) (he : (X ++ tail)[q0]? = some (a, .inr (ci, fs))) (hR : fr + 1 ≤ R.frames ∧ 8 + (mx + 11) + loc ≤ R.locals) (hroom : cells + mc ≤ R.cells ∧ slots + ms ≤ R.slots) (hcat : (rest.map fun v => v.category).sum ≤ 8) (hnd : va_nd isC = true) (hf : ∀ u, (cx1 u).map Prod.fst = cx.map Prod.fst) {ws2 : S → va_W} (hws : ∀ u, putW X isC (cx1 u) ++ tail1 u = ws2 u)
    (q : ∀ (u : S) (H1 : Heap) (locs1 : List Loc), post u → WD k A s.heap (ws2 u) H1 locs1 → W p l e R s m args below meth c H1 locs1 (cells + mc) (slots + ms) Q (F0 m (pc + 3) ls rest)) : W p l e R s m args below meth c H locs cells slots Q (F0 m pc ls st0) := by
  subst hst
  obtain ⟨hfree, hpre⟩ := pre_callG E hW hA isC hC hnd
  refine va_callv (va_runV (As := As) (rest := rest) E.fix (hM H.size) (hV.cw E hR) ⟨Bpre.blind, va_recv E.hK hW.1 hc he, fun U hU hw => ⟨rfl, hpre U hU hw⟩⟩ rfl hn hl.1 rfl (lv_room hcat) hdg hroom) hW.2.2 (fun q _ h => hfree q h) hfree (fun u t H1 locs1 ht hvm hp hB hz hk hS => ?_)
  obtain ⟨hP1, hD1⟩ := hB
  rw [ht] at hP1
  obtain ⟨g1, g2⟩ := call_frameG hW.1 hW.2.1 isC hC (hf u) hfree hk hP1 hD1
  rw [hws] at g1 g2
  exact q u H1 locs1 hp ⟨g1, g2, hS⟩
theorem k_callGi {C : String} {index mx n fr mc ms loc : Nat} {y : MethodName} {bytes : ByteArray} {ret : Option FieldType} {S : Type} {cx1 tail1 : S → va_W} {post : Int32 → S → Prop} {As : List Value} {lv : List (Nat × Value)} {st0 : List Value} {fs : List Value} {T : u_T} {N : Nat}
    (hM : CG l k y bytes mx ret fr mc ms loc (.ref a :: As) (cx ++ tail) (Qi k (fun u => cx1 u ++ tail1 u) post)) (E : E0 p s m c cc nL own k A) (hV : VL own index C y bytes mx ret n) (hdg : decode cc pc = .ok (.invokevirtual index, 3)) (hst : st0 = As.reverse ++ .ref a :: rest) (isC : List Nat) (ci q0 : Nat)
    (hW : WD k A s.heap (X ++ tail) H locs) (hA : ∀ q : Nat, s.heap.size ≤ q → A q) (hl : lv_has ls nL lv) (hn : As.length = n) (hC : isC.map (fun i => X[i]?) = cx.map some) (hc : vwCl[ci]? = some (C, T, N)) (he : (X ++ tail)[q0]? = some (a, .inr (ci, fs))) (hR : fr + 1 ≤ R.frames ∧ 8 + (mx + 11) + loc ≤ R.locals) (hroom : cells + mc ≤ R.cells ∧ slots + ms ≤ R.slots) (hcat : (rest.map fun v => v.category).sum ≤ 8) (hnd : va_nd isC = true) (hf : ∀ u, (cx1 u).map Prod.fst = cx.map Prod.fst) {ws2 : S → va_W} (hws : ∀ u, putW X isC (cx1 u) ++ tail1 u = ws2 u)
    (q : ∀ (r : Int32) (u : S) (H1 : Heap) (locs1 : List Loc), post r u → WD k A s.heap (ws2 u) H1 locs1 → W p l e R s m args below meth c H1 locs1 (cells + mc) (slots + ms) Q (F0 m (pc + 3) ls (.int r :: rest))) : W p l e R s m args below meth c H locs cells slots Q (F0 m pc ls st0) := by
  subst hst
  obtain ⟨hfree, hpre⟩ := pre_callG E hW hA isC hC hnd
  refine va_calli (va_runV (As := As) (rest := rest) E.fix (hM H.size) (hV.cw E hR) ⟨Bpre.blind, va_recv E.hK hW.1 hc he, fun U hU hw => ⟨rfl, hpre U hU hw⟩⟩ rfl hn hl.1 rfl (lv_room hcat) hdg hroom) hW.2.2 (fun q _ h => hfree q h) hfree (fun r u t H1 locs1 ht hvm hp hB hz hk hS => ?_)
  obtain ⟨hP1, hD1⟩ := hB
  rw [ht] at hP1
  obtain ⟨g1, g2⟩ := call_frameG hW.1 hW.2.1 isC hC (hf u) hfree hk hP1 hD1
  rw [hws] at g1 g2
  exact q r u H1 locs1 hp ⟨g1, g2, hS⟩
theorem k_callSGi {index mx n fr mc ms loc : Nat} {y : MethodName} {bytes : ByteArray} {ret : Option FieldType} {S : Type} {cx1 tail1 : S → va_W} {post : Int32 → S → Prop} {As : List Value} {lv : List (Nat × Value)} {st0 : List Value}
    (hM : CG l k y bytes mx ret fr mc ms loc As (cx ++ tail) (Qi k (fun u => cx1 u ++ tail1 u) post)) (E : E0 p s m c cc nL own k A) (hV : SL own index y bytes mx ret n) (hdg : decode cc pc = .ok (.invokestatic index, 3)) (hst : st0 = As.reverse ++ rest) (isC : List Nat) 
    (hW : WD k A s.heap (X ++ tail) H locs) (hA : ∀ q : Nat, s.heap.size ≤ q → A q) (hl : lv_has ls nL lv) (hn : As.length = n) (hC : isC.map (fun i => X[i]?) = cx.map some) (hR : fr + 1 ≤ R.frames ∧ 8 + (mx + 11) + loc ≤ R.locals) (hroom : cells + mc ≤ R.cells ∧ slots + ms ≤ R.slots) (hcat : (rest.map fun v => v.category).sum ≤ 8) (hnd : va_nd isC = true) (hf : ∀ u, (cx1 u).map Prod.fst = cx.map Prod.fst) {ws2 : S → va_W} (hws : ∀ u, putW X isC (cx1 u) ++ tail1 u = ws2 u)
    (q : ∀ (r : Int32) (u : S) (H1 : Heap) (locs1 : List Loc), post r u → WD k A s.heap (ws2 u) H1 locs1 → W p l e R s m args below meth c H1 locs1 (cells + mc) (slots + ms) Q (F0 m (pc + 3) ls (.int r :: rest))) : W p l e R s m args below meth c H locs cells slots Q (F0 m pc ls st0) := by
  subst hst
  obtain ⟨hfree, hpre⟩ := pre_callG E hW hA isC hC hnd
  refine va_calli (va_runS (As := As) (rest := rest) E.fix (hM H.size) (hV.cw E hR) ⟨Bpre.blind, fun U hU hw => ⟨rfl, hpre U hU hw⟩⟩ rfl hn hl.1 rfl (lv_room hcat) hdg hroom) hW.2.2 (fun q _ h => hfree q h) hfree (fun r u t H1 locs1 ht hvm hp hB hz hk hS => ?_)
  obtain ⟨hP1, hD1⟩ := hB
  rw [ht] at hP1
  obtain ⟨g1, g2⟩ := call_frameG hW.1 hW.2.1 isC hC (hf u) hfree hk hP1 hD1
  rw [hws] at g1 g2
  exact q r u H1 locs1 hp ⟨g1, g2, hS⟩
end KG
/-! whole blocks of a world, by their places -/
theorem blk_at {ws X B Y : va_W} (h : ws = X ++ B ++ Y) {j : Nat} (hj : j < B.length) : ws[X.length + j]? = B[j]? := by
  subst h
  rw [List.append_assoc, List.getElem?_append_right (Nat.le_add_right _ _), Nat.add_sub_cancel_left, List.getElem?_append_left hj]
theorem blk_map {ws : va_W} (X B Y : va_W) (n m : Nat) (h : ws = X ++ B ++ Y) (hn : X.length = n) (hm : B.length = m) : (List.range' n m).map (fun i => ws[i]?) = B.map some := by
  subst hn; subst hm
  apply List.ext_getElem?
  intro j
  rw [List.getElem?_map, List.getElem?_map]
  rcases Nat.lt_or_ge j B.length with hj | hj
  · rw [List.getElem?_range' hj]
    show some (ws[X.length + 1 * j]?) = _
    rw [Nat.one_mul, blk_at h hj, List.getElem?_eq_getElem hj]; rfl
  · rw [List.getElem?_eq_none (by simpa using hj), List.getElem?_eq_none hj]; rfl
theorem putW_app : ∀ (i1 : List Nat) (x1 : va_W) (ws : va_W) (i2 : List Nat) (x2 : va_W), i1.length = x1.length → putW ws (i1 ++ i2) (x1 ++ x2) = putW (putW ws i1 x1) i2 x2 := by
  intro i1
  induction i1 with
  | nil =>
    intro x1 ws i2 x2 h
    cases x1 with
    | nil => cases i2 <;> rfl
    | cons _ _ => simp at h
  | cons i i1 ih =>
    intro x1 ws i2 x2 h
    cases x1 with
    | nil => simp at h
    | cons x x1 => exact ih x1 (ws.set i x) i2 x2 (by simpa using h)
theorem blk_put' : ∀ (B B' X Y : va_W), B'.length = B.length → putW (X ++ B ++ Y) (List.range' X.length B.length) B' = X ++ B' ++ Y := by
  intro B
  induction B with
  | nil =>
    intro B' X Y h
    have : B' = [] := List.length_eq_zero_iff.mp h
    subst this
    rfl
  | cons b B ih =>
    intro B' X Y h
    cases B' with
    | nil => simp at h
    | cons b' B' =>
      have h1 : (X ++ (b :: B) ++ Y).set X.length b' = (X ++ [b']) ++ B ++ Y := by
        rw [List.append_assoc, List.set_append_right _ _ (Nat.le_refl _), Nat.sub_self]
        simp
      have h2 := ih B' (X ++ [b']) Y (by simpa using h)
      rw [List.length_append] at h2
      show putW ((X ++ (b :: B) ++ Y).set X.length b') (List.range' (X.length + 1) B.length) B' = _
      rw [h1]
      have h3 : X ++ [b'] ++ B' ++ Y = X ++ (b' :: B') ++ Y := by simp
      rw [← h3]
      exact h2
theorem blk_put {ws : va_W} (X B Y B' : va_W) (n m : Nat) (h : ws = X ++ B ++ Y) (hl : B'.length = B.length) (hn : X.length = n) (hm : B.length = m) : putW ws (List.range' n m) B' = X ++ B' ++ Y := by
  subst h; subst hn; subst hm
  exact blk_put' B B' X Y hl
theorem app2 {α : Type} {a b c d : List α} (h1 : a = b) (h2 : c = d) : a ++ c = b ++ d := by rw [h1, h2]
