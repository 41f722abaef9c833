/-! a world as a list of blocks, and calls that take some of them -/
def posOf (ln : List Nat) (is : List Nat) : List Nat := is.flatMap (fun i => List.range' ((ln.take i).sum) (ln.getD i 0))
def setAll : List va_W → List Nat → List va_W → List va_W
  | bl, i :: is, x :: xs => setAll (bl.set i x) is xs
  | bl, _, _ => bl
theorem flat_len : ∀ (bl : List va_W), bl.flatten.length = (bl.map List.length).sum := by
  intro bl
  induction bl with
  | nil => rfl
  | cons b bl ih => rw [List.flatten_cons, List.length_append, ih]; rfl
theorem flat_split {bl : List va_W} {i : Nat} {B : va_W} (h : bl[i]? = some B) : bl.flatten = (bl.take i).flatten ++ B ++ (bl.drop (i + 1)).flatten := by
  have hi := (List.getElem?_eq_some_iff.mp h).1
  have e : bl = bl.take i ++ B :: bl.drop (i + 1) := by
    have h2 := (List.getElem?_eq_some_iff.mp h).2
    rw [← h2, ← List.drop_eq_getElem_cons hi, List.take_append_drop]
  conv => lhs; rw [e]
  rw [List.flatten_append, List.flatten_cons, List.append_assoc]
theorem flat_set {bl : List va_W} {i : Nat} {B B' : va_W} (h : bl[i]? = some B) : (bl.set i B').flatten = (bl.take i).flatten ++ B' ++ (bl.drop (i + 1)).flatten := by
  have hi := (List.getElem?_eq_some_iff.mp h).1
  rw [List.set_eq_take_append_cons_drop, if_pos hi, List.flatten_append, List.flatten_cons, List.append_assoc]
theorem flat_off {bl : List va_W} {ln : List Nat} (hl : (bl.map List.length).take ln.length = ln) {i : Nat} (hi : i < ln.length) : (bl.take i).flatten.length = (ln.take i).sum := by
  rw [flat_len, List.map_take]
  have : (bl.map List.length).take i = ln.take i := by
    rw [← hl, List.take_take]
    congr 1
    omega
  rw [this]
theorem flat_one {bl : List va_W} {ln : List Nat} (hl : (bl.map List.length).take ln.length = ln) {i : Nat} {B : va_W} (hi : i < ln.length) (h : bl[i]? = some B) : B.length = ln.getD i 0 := by
  have h1 : (bl.map List.length)[i]? = some B.length := by rw [List.getElem?_map, h]; rfl
  have h2 : ((bl.map List.length).take ln.length)[i]? = some B.length := by rw [List.getElem?_take_of_lt hi]; exact h1
  rw [hl] at h2
  rw [List.getD_eq_getElem?_getD, h2]; rfl
theorem flat_map {bl : List va_W} {ln : List Nat} (hl : (bl.map List.length).take ln.length = ln) : ∀ (is : List Nat) (cs : List va_W), (∀ i ∈ is, i < ln.length) → is.map (fun i => bl[i]?) = cs.map some → (posOf ln is).map (fun j => bl.flatten[j]?) = cs.flatten.map some := by
  intro is
  induction is with
  | nil => intro cs _ h; cases cs with
    | nil => rfl
    | cons _ _ => cases h
  | cons i is ih =>
    intro cs hi h
    cases cs with
    | nil => cases h
    | cons c cs =>
      have h0 : bl[i]? = some c := (List.cons.inj h).1
      have hi0 := hi i List.mem_cons_self
      show (List.range' ((ln.take i).sum) (ln.getD i 0) ++ posOf ln is).map _ = (c ++ cs.flatten).map some
      rw [List.map_append, List.map_append, ih cs (fun j hj => hi j (List.mem_cons_of_mem _ hj)) (List.cons.inj h).2]
      congr 1
      exact blk_map _ _ _ _ _ (flat_split h0) (flat_off hl hi0) (flat_one hl hi0 h0)
theorem flat_put {ln : List Nat} : ∀ (is : List Nat) (cs : List va_W) (bl : List va_W), (bl.map List.length).take ln.length = ln → (∀ i ∈ is, i < ln.length) → (∀ i ∈ is, i < bl.length) → cs.map List.length = is.map (fun i => ln.getD i 0) → putW bl.flatten (posOf ln is) cs.flatten = (setAll bl is cs).flatten := by
  intro is
  induction is with
  | nil => intro cs bl _ _ _ h; cases cs with
    | nil => rfl
    | cons _ _ => cases h
  | cons i is ih =>
    intro cs bl hl hi hb h
    cases cs with
    | nil => cases h
    | cons c cs =>
      have hi0 := hi i List.mem_cons_self
      have hb0 := hb i List.mem_cons_self
      have h0 : bl[i]? = some bl[i] := List.getElem?_eq_getElem hb0
      have hlen : bl[i].length = ln.getD i 0 := flat_one hl hi0 h0
      have hc : c.length = ln.getD i 0 := (List.cons.inj h).1
      show putW bl.flatten (List.range' ((ln.take i).sum) (ln.getD i 0) ++ posOf ln is) (c ++ cs.flatten) = (setAll (bl.set i c) is cs).flatten
      rw [putW_app _ _ _ _ _ (by rw [List.length_range', hc]), blk_put _ _ _ c _ _ (flat_split h0) (hc.trans hlen.symm) (flat_off hl hi0) hlen, ← flat_set h0]
      refine ih cs (bl.set i c) ?_ (fun j hj => hi j (List.mem_cons_of_mem _ hj)) (fun j hj => by rw [List.length_set]; exact hb j (List.mem_cons_of_mem _ hj)) (List.cons.inj h).2
      have e : (bl.set i c).map List.length = bl.map List.length := by
        apply List.ext_getElem?
        intro j
        rw [List.getElem?_map, List.getElem?_map, List.getElem?_set]
        by_cases hij : i = j
        · subst hij
          rw [if_pos rfl, if_pos hb0, h0]
          show some c.length = some bl[i].length
          rw [hc, hlen]
        · rw [if_neg hij]
      rw [e]
      exact hl
theorem flat_snoc (bl : List va_W) (c : va_W) : (bl ++ [c]).flatten = bl.flatten ++ c := by
  rw [List.flatten_append, List.flatten_cons, List.flatten_nil, List.append_nil]
theorem fl1 (a : va_W) : a = List.flatten [a] := by simp
theorem fl2 (a b : va_W) : a ++ b = List.flatten [a, b] := by simp
theorem fl3 (a b c : va_W) : a ++ b ++ c = List.flatten [a, b, c] := by simp
theorem fl4 (a b c d : va_W) : a ++ b ++ c ++ d = List.flatten [a, b, c, d] := by simp
theorem fl5 (a b c d e : va_W) : a ++ b ++ c ++ d ++ e = List.flatten [a, b, c, d, e] := by simp
theorem fl6 (a b c d e f : va_W) : a ++ b ++ c ++ d ++ e ++ f = List.flatten [a, b, c, d, e, f] := by simp
theorem fl7 (a b c d e f g : va_W) : a ++ b ++ c ++ d ++ e ++ f ++ g = List.flatten [a, b, c, d, e, f, g] := by simp
theorem ext_map {X Y c : va_W} {is : List Nat} (h : is.map (fun i => X[i]?) = c.map some) : is.map (fun i => (X ++ Y)[i]?) = c.map some := by
  rw [← h]
  apply List.map_congr_left
  intro i hi
  have h2 : X[i]? ∈ c.map some := by rw [← h]; exact List.mem_map.mpr ⟨i, hi, rfl⟩
  obtain ⟨q, -, hq⟩ := List.mem_map.mp h2
  rw [List.getElem?_append_left (List.getElem?_eq_some_iff.mp hq.symm).1]
theorem ext_put : ∀ (is : List Nat) (xs X Y : va_W), (∀ i ∈ is, i < X.length) → putW (X ++ Y) is xs = putW X is xs ++ Y := by
  intro is
  induction is with
  | nil => intro xs X Y _; cases xs <;> rfl
  | cons i is ih =>
    intro xs X Y h
    cases xs with
    | nil => rfl
    | cons x xs =>
      show putW ((X ++ Y).set i x) is xs = putW (X.set i x) is xs ++ Y
      rw [List.set_append_left _ _ (h i List.mem_cons_self)]
      exact ih xs (X.set i x) Y (fun j hj => by rw [List.length_set]; exact h j (List.mem_cons_of_mem _ hj))
theorem pos_lt {bl : List va_W} {ln : List Nat} (hl : (bl.map List.length).take ln.length = ln) {is : List Nat} {cs : List va_W} (hi : ∀ i ∈ is, i < ln.length) (h : is.map (fun i => bl[i]?) = cs.map some) : ∀ j ∈ posOf ln is, j < bl.flatten.length := by
  intro j hj
  have h1 := flat_map hl is cs hi h
  have h2 : bl.flatten[j]? ∈ cs.flatten.map some := by rw [← h1]; exact List.mem_map.mpr ⟨j, hj, rfl⟩
  obtain ⟨q, -, hq⟩ := List.mem_map.mp h2
  exact (List.getElem?_eq_some_iff.mp hq.symm).1
theorem law_map {bl : List va_W} {ln is : List Nat} {cs : List va_W} {c S P : va_W} (hc : c = cs.flatten) (hl : (bl.map List.length).take ln.length = ln) (hi : ∀ i ∈ is, i < ln.length) (h : is.map (fun i => bl[i]?) = cs.map some) : (posOf ln is).map (fun j => ((bl.flatten ++ S) ++ P)[j]?) = c.map some := by
  rw [hc]
  exact ext_map (ext_map (flat_map hl is cs hi h))
theorem law_mapG {bl : List va_W} {ln is : List Nat} {cs : List va_W} {c S : va_W} (hc : c = cs.flatten) (hl : (bl.map List.length).take ln.length = ln) (hi : ∀ i ∈ is, i < ln.length) (h : is.map (fun i => bl[i]?) = cs.map some) : (posOf ln is).map (fun j => (bl.flatten ++ S)[j]?) = c.map some := by
  rw [hc]
  exact ext_map (flat_map hl is cs hi h)
theorem law_putG {bl : List va_W} {ln is : List Nat} {cs0 cs : List va_W} {c S T : va_W} (hc : c = cs.flatten) (hl : (bl.map List.length).take ln.length = ln) (hi : ∀ i ∈ is, i < ln.length) (h : is.map (fun i => bl[i]?) = cs0.map some) (hlen : cs.map List.length = is.map (fun i => ln.getD i 0)) : putW (bl.flatten ++ S) (posOf ln is) c ++ T = ((setAll bl is cs).flatten ++ S) ++ T := by
  have hb : ∀ i ∈ is, i < bl.length := by
    intro i hi2
    have h2 : bl[i]? ∈ cs0.map some := by rw [← h]; exact List.mem_map.mpr ⟨i, hi2, rfl⟩
    obtain ⟨q, -, hq⟩ := List.mem_map.mp h2
    exact (List.getElem?_eq_some_iff.mp hq.symm).1
  rw [hc, ext_put _ _ _ _ (pos_lt hl hi h), flat_put is cs bl hl hi hb hlen]
theorem law_put {bl : List va_W} {ln is : List Nat} {cs0 cs : List va_W} {c S P : va_W} (hc : c = cs.flatten) (hl : (bl.map List.length).take ln.length = ln) (hi : ∀ i ∈ is, i < ln.length) (h : is.map (fun i => bl[i]?) = cs0.map some) (hlen : cs.map List.length = is.map (fun i => ln.getD i 0)) : putW ((bl.flatten ++ S) ++ P) (posOf ln is) c = ((setAll bl is cs).flatten ++ S) ++ P := by
  have hp : ∀ j ∈ posOf ln is, j < (bl.flatten ++ S).length := fun j hj => by
    rw [List.length_append]
    exact Nat.lt_of_lt_of_le (pos_lt hl hi h j hj) (Nat.le_add_right _ _)
  rw [ext_put _ _ _ _ hp]
  exact law_putG (cs0 := cs0) hc hl hi h hlen
theorem WD.swap {k : KT} {A : Nat → Prop} {H0 H : Heap} {locs : List Loc} {a b c : va_W} (h : WD k A H0 ((a ++ b) ++ c) H locs) : WD k A H0 ((a ++ c) ++ b) H locs := ⟨h.1.swap, h.2.1.swap, h.2.2⟩
section KLW
variable {p : Program} {l : Launch} {e : Env} {R : Room} {s : State} {m : MethodId} {args : Array Value} {below : List Frame} {meth : Method} {c : Code} {H : Heap} {locs : List Loc} {cells slots : Nat} {Q : State → Prop}
variable {cc : ByteArray} {pc nL : Nat} {ls : Array Slot} {rest : List Value} {k : KT} {A : Nat → Prop} {ws X tail cx : va_W} {own : String} {a : Nat}
theorem k_callVd {C : String} {index mx n fr mc ms loc : Nat} {y : MethodName} {bytes : ByteArray} {ret : Option FieldType} {S : Type} {W0 : va_W} {W1 : S → va_W} {post : UInt64 → S → Prop} {As : List Value} {lv : List (Nat × Value)} {st0 : List Value} {fs : List Value} {T : u_T} {N : Nat}
    (hM : CG l k y bytes mx ret fr mc ms loc (.ref a :: As) W0 (Qd k W1 post)) (E : E0 p s m c cc nL own k A) (hV : VL own index C y bytes mx ret n) (hdg : decode cc pc = .ok (.invokevirtual index, 3)) (hst : st0 = As.reverse ++ .ref a :: rest) (isC : List Nat) (ci q0 : Nat)
    (hW : WD k A s.heap ws H locs) (hA : ∀ q : Nat, s.heap.size ≤ q → A q) (hl : lv_has ls nL lv) (hn : As.length = n) (hC : isC.map (fun i => ws[i]?) = W0.map some) (hc : vwCl[ci]? = some (C, T, N)) (he : ws[q0]? = some (a, .inr (ci, fs))) (hR : fr + 1 ≤ R.frames ∧ 8 + (mx + 11) + loc ≤ R.locals) (hroom : cells + mc ≤ R.cells ∧ slots + ms ≤ R.slots) (hcat : (rest.map fun v => v.category).sum ≤ 8) (hnd : va_nd isC = true) (hf : ∀ u, (W1 u).map Prod.fst = W0.map Prod.fst) {ws2 : S → va_W} (hws : ∀ u, putW ws isC (W1 u) = ws2 u)
    (q : ∀ (r : UInt64) (u : S) (H1 : Heap) (locs1 : List Loc), post r u → WD k A s.heap (ws2 u) H1 locs1 → W p l e R s m args below meth c H1 locs1 (cells + mc) (slots + ms) Q (F0 m (pc + 3) ls (.double r :: rest))) : W p l e R s m args below meth c H locs cells slots Q (F0 m pc ls st0) := by
  subst hst
  obtain ⟨hfree, hpre⟩ := pre_call E rfl hW hA isC hC hnd
  refine va_calld (va_runV (As := As) (rest := rest) E.fix (hM H.size) (hV.cw E hR) ⟨Bpre.blind, va_recv E.hK hW.1 hc he, fun U hU hw => ⟨rfl, hpre U hU hw⟩⟩ rfl hn hl.1 rfl (lv_room hcat) hdg hroom) hW.2.2 (fun q _ h => hfree q h) hfree (fun r u t H1 locs1 ht hvm hp hB hz hk hS => ?_)
  obtain ⟨hP1, hD1⟩ := hB
  rw [ht] at hP1
  obtain ⟨g1, g2⟩ := call_frame hW.1 hW.2.1 isC hC (hf u) hk hP1
  rw [hws] at g1 g2
  exact q r u H1 locs1 hp ⟨g1, g2, hS⟩
theorem k_callVf {C : String} {index mx n fr mc ms loc : Nat} {y : MethodName} {bytes : ByteArray} {ret : Option FieldType} {S : Type} {W0 : va_W} {W1 : S → va_W} {post : UInt32 → S → Prop} {As : List Value} {lv : List (Nat × Value)} {st0 : List Value} {fs : List Value} {T : u_T} {N : Nat}
    (hM : CG l k y bytes mx ret fr mc ms loc (.ref a :: As) W0 (Qf k W1 post)) (E : E0 p s m c cc nL own k A) (hV : VL own index C y bytes mx ret n) (hdg : decode cc pc = .ok (.invokevirtual index, 3)) (hst : st0 = As.reverse ++ .ref a :: rest) (isC : List Nat) (ci q0 : Nat)
    (hW : WD k A s.heap ws H locs) (hA : ∀ q : Nat, s.heap.size ≤ q → A q) (hl : lv_has ls nL lv) (hn : As.length = n) (hC : isC.map (fun i => ws[i]?) = W0.map some) (hc : vwCl[ci]? = some (C, T, N)) (he : ws[q0]? = some (a, .inr (ci, fs))) (hR : fr + 1 ≤ R.frames ∧ 8 + (mx + 11) + loc ≤ R.locals) (hroom : cells + mc ≤ R.cells ∧ slots + ms ≤ R.slots) (hcat : (rest.map fun v => v.category).sum ≤ 8) (hnd : va_nd isC = true) (hf : ∀ u, (W1 u).map Prod.fst = W0.map Prod.fst) {ws2 : S → va_W} (hws : ∀ u, putW ws isC (W1 u) = ws2 u)
    (q : ∀ (r : UInt32) (u : S) (H1 : Heap) (locs1 : List Loc), post r u → WD k A s.heap (ws2 u) H1 locs1 → W p l e R s m args below meth c H1 locs1 (cells + mc) (slots + ms) Q (F0 m (pc + 3) ls (.float r :: rest))) : W p l e R s m args below meth c H locs cells slots Q (F0 m pc ls st0) := by
  subst hst
  obtain ⟨hfree, hpre⟩ := pre_call E rfl hW hA isC hC hnd
  refine va_callf (va_runV (As := As) (rest := rest) E.fix (hM H.size) (hV.cw E hR) ⟨Bpre.blind, va_recv E.hK hW.1 hc he, fun U hU hw => ⟨rfl, hpre U hU hw⟩⟩ rfl hn hl.1 rfl (lv_room hcat) hdg hroom) hW.2.2 (fun q _ h => hfree q h) hfree (fun r u t H1 locs1 ht hvm hp hB hz hk hS => ?_)
  obtain ⟨hP1, hD1⟩ := hB
  rw [ht] at hP1
  obtain ⟨g1, g2⟩ := call_frame hW.1 hW.2.1 isC hC (hf u) hk hP1
  rw [hws] at g1 g2
  exact q r u H1 locs1 hp ⟨g1, g2, hS⟩
theorem k_callGi {C : String} {index mx n fr mc ms loc : Nat} {y : MethodName} {bytes : ByteArray} {ret : Option FieldType} {S : Type} {cx1 tail1 : S → va_W} {post : Int32 → S → Prop} {As : List Value} {lv : List (Nat × Value)} {st0 : List Value} {fs : List Value} {T : u_T} {N : Nat}
    (hM : CG l k y bytes mx ret fr mc ms loc (.ref a :: As) (cx ++ tail) (Qi k (fun u => cx1 u ++ tail1 u) post)) (E : E0 p s m c cc nL own k A) (hV : VL own index C y bytes mx ret n) (hdg : decode cc pc = .ok (.invokevirtual index, 3)) (hst : st0 = As.reverse ++ .ref a :: rest) (isC : List Nat) (ci q0 : Nat)
    (hW : WD k A s.heap (X ++ tail) H locs) (hA : ∀ q : Nat, s.heap.size ≤ q → A q) (hl : lv_has ls nL lv) (hn : As.length = n) (hC : isC.map (fun i => X[i]?) = cx.map some) (hc : vwCl[ci]? = some (C, T, N)) (he : (X ++ tail)[q0]? = some (a, .inr (ci, fs))) (hR : fr + 1 ≤ R.frames ∧ 8 + (mx + 11) + loc ≤ R.locals) (hroom : cells + mc ≤ R.cells ∧ slots + ms ≤ R.slots) (hcat : (rest.map fun v => v.category).sum ≤ 8) (hnd : va_nd isC = true) (hf : ∀ u, (cx1 u).map Prod.fst = cx.map Prod.fst) {ws2 : S → va_W} (hws : ∀ u, putW X isC (cx1 u) ++ tail1 u = ws2 u)
    (q : ∀ (r : Int32) (u : S) (H1 : Heap) (locs1 : List Loc), post r u → WD k A s.heap (ws2 u) H1 locs1 → W p l e R s m args below meth c H1 locs1 (cells + mc) (slots + ms) Q (F0 m (pc + 3) ls (.int r :: rest))) : W p l e R s m args below meth c H locs cells slots Q (F0 m pc ls st0) := by
  subst hst
  obtain ⟨hfree, hpre⟩ := pre_callG E hW hA isC hC hnd
  refine va_calli (va_runV (As := As) (rest := rest) E.fix (hM H.size) (hV.cw E hR) ⟨Bpre.blind, va_recv E.hK hW.1 hc he, fun U hU hw => ⟨rfl, hpre U hU hw⟩⟩ rfl hn hl.1 rfl (lv_room hcat) hdg hroom) hW.2.2 (fun q _ h => hfree q h) hfree (fun r u t H1 locs1 ht hvm hp hB hz hk hS => ?_)
  obtain ⟨hP1, hD1⟩ := hB
  rw [ht] at hP1
  obtain ⟨g1, g2⟩ := call_frameG hW.1 hW.2.1 isC hC (hf u) hfree hk hP1 hD1
  rw [hws] at g1 g2
  exact q r u H1 locs1 hp ⟨g1, g2, hS⟩
/-- a helper of the law: nothing leaves it but by a return -/
theorem k_callSXi {index mx n fr mc ms loc : Nat} {y : MethodName} {bytes : ByteArray} {ret : Option FieldType} {hh : List (Nat × Nat × Nat × Nat)} {S : Type} {W0 : va_W} {W1 : S → va_W} {post : Int32 → S → Prop} {As : List Value} {lv : List (Nat × Value)} {st0 : List Value}
    (hM : CXW l k y bytes mx ret hh fr mc ms loc As W0 (Qi k W1 post)) (E : E0 p s m c cc nL own k A) (hV : SWL own index y bytes mx ret hh n) (hg : goodWord (Cond.codeWith y bytes mx ret hh) = true) (hdg : decode cc pc = .ok (.invokestatic index, 3)) (hst : st0 = As.reverse ++ rest) (isC : List Nat)
    (hW : WD k A s.heap ws H locs) (hA : ∀ q : Nat, s.heap.size ≤ q → A q) (hl : lv_has ls nL lv) (hn : As.length = n) (hC : isC.map (fun i => ws[i]?) = W0.map some) (hR : fr + 1 ≤ R.frames ∧ 8 + (mx + 11) + loc ≤ R.locals) (hroom : cells + mc ≤ R.cells ∧ slots + ms ≤ R.slots) (hcat : (rest.map fun v => v.category).sum ≤ 8) (hnd : va_nd isC = true) (hf : ∀ u, (W1 u).map Prod.fst = W0.map Prod.fst) {ws2 : S → va_W} (hws : ∀ u, putW ws isC (W1 u) = ws2 u)
    (q : ∀ (r : Int32) (u : S) (H1 : Heap) (locs1 : List Loc), post r u → WD k A s.heap (ws2 u) H1 locs1 → W p l e R s m args below meth c H1 locs1 (cells + mc) (slots + ms) Q (F0 m (pc + 3) ls (.int r :: rest))) : W p l e R s m args below meth c H locs cells slots Q (F0 m pc ls st0) := by
  subst hst
  obtain ⟨hfree, hpre⟩ := pre_call E rfl hW hA isC hC hnd
  have hr := vx_runSX (args := args) (cells := cells) (slots := slots) (locs := locs) (H := H) (e := e) (below := below) (meth := meth) (As := As) (rest := rest) (g := F0 m pc ls (As.reverse ++ rest)) E.fix (hM H.size) (hV.cw E hR hg) ⟨Bpre.blind, fun U hU hw => ⟨rfl, hpre U hU hw⟩⟩ rfl hn hl.1 rfl (lv_room hcat) hdg hroom
  have hr2 : vx_Run p l e R s m args below meth c H locs cells slots mc ms (F0 m pc ls (As.reverse ++ rest)) rest (Qi k W1 post (va_A W0 H.size) As.toArray) (vx_X (S := Unit) (fun _ => False) (fun _ _ _ => False) A) (va_A W0 H.size) := by
    intro T hT X
    rcases hr T hT X with h | ⟨q, st₀, t, T', L, E9, ce, h0, X', hL, e1, e2, hF, h9⟩
    · exact Or.inl h
    · exact hF.elim
  refine vx_calli hr2 hW.2.2 (fun q _ h => hfree q h) hfree (fun q _ h => h) (fun _ _ _ _ _ _ _ _ _ hp _ _ _ _ _ _ _ => hp.elim) (fun r u t H1 locs1 ht hvm hp hB hz hk hS => ?_)
  obtain ⟨hP1, hD1⟩ := hB
  rw [ht] at hP1
  obtain ⟨g1, g2⟩ := call_frame hW.1 hW.2.1 isC hC (hf u) hk hP1
  rw [hws] at g1 g2
  exact q r u H1 locs1 hp ⟨g1, g2, hS⟩
theorem k_callSXGi {index mx n fr mc ms loc : Nat} {y : MethodName} {bytes : ByteArray} {ret : Option FieldType} {hh : List (Nat × Nat × Nat × Nat)} {S : Type} {cx1 tail1 : S → va_W} {post : Int32 → S → Prop} {As : List Value} {lv : List (Nat × Value)} {st0 : List Value}
    (hM : CXW l k y bytes mx ret hh fr mc ms loc As (cx ++ tail) (Qi k (fun u => cx1 u ++ tail1 u) post)) (E : E0 p s m c cc nL own k A) (hV : SWL own index y bytes mx ret hh n) (hg : goodWord (Cond.codeWith y bytes mx ret hh) = true) (hdg : decode cc pc = .ok (.invokestatic index, 3)) (hst : st0 = As.reverse ++ rest) (isC : List Nat)
    (hW : WD k A s.heap (X ++ tail) H locs) (hA : ∀ q : Nat, s.heap.size ≤ q → A q) (hl : lv_has ls nL lv) (hn : As.length = n) (hC : isC.map (fun i => X[i]?) = cx.map some) (hR : fr + 1 ≤ R.frames ∧ 8 + (mx + 11) + loc ≤ R.locals) (hroom : cells + mc ≤ R.cells ∧ slots + ms ≤ R.slots) (hcat : (rest.map fun v => v.category).sum ≤ 8) (hnd : va_nd isC = true) (hf : ∀ u, (cx1 u).map Prod.fst = cx.map Prod.fst) {ws2 : S → va_W} (hws : ∀ u, putW X isC (cx1 u) ++ tail1 u = ws2 u)
    (q : ∀ (r : Int32) (u : S) (H1 : Heap) (locs1 : List Loc), post r u → WD k A s.heap (ws2 u) H1 locs1 → W p l e R s m args below meth c H1 locs1 (cells + mc) (slots + ms) Q (F0 m (pc + 3) ls (.int r :: rest))) : W p l e R s m args below meth c H locs cells slots Q (F0 m pc ls st0) := by
  subst hst
  obtain ⟨hfree, hpre⟩ := pre_callG E hW hA isC hC hnd
  have hr := vx_runSX (args := args) (cells := cells) (slots := slots) (locs := locs) (H := H) (e := e) (below := below) (meth := meth) (As := As) (rest := rest) (g := F0 m pc ls (As.reverse ++ rest)) E.fix (hM H.size) (hV.cw E hR hg) ⟨Bpre.blind, fun U hU hw => ⟨rfl, hpre U hU hw⟩⟩ rfl hn hl.1 rfl (lv_room hcat) hdg hroom
  have hr2 : vx_Run p l e R s m args below meth c H locs cells slots mc ms (F0 m pc ls (As.reverse ++ rest)) rest (Qi k (fun u => cx1 u ++ tail1 u) post (va_A (cx ++ tail) H.size) As.toArray) (vx_X (S := Unit) (fun _ => False) (fun _ _ _ => False) A) (va_A (cx ++ tail) H.size) := by
    intro T hT X
    rcases hr T hT X with h | ⟨q, st₀, t, T', L, E9, ce, h0, X', hL, e1, e2, hF, h9⟩
    · exact Or.inl h
    · exact hF.elim
  refine vx_calli hr2 hW.2.2 (fun q _ h => hfree q h) hfree (fun q _ h => h) (fun _ _ _ _ _ _ _ _ _ hp _ _ _ _ _ _ _ => hp.elim) (fun r u t H1 locs1 ht hvm hp hB hz hk hS => ?_)
  obtain ⟨hP1, hD1⟩ := hB
  rw [ht] at hP1
  obtain ⟨g1, g2⟩ := call_frameG hW.1 hW.2.1 isC hC (hf u) hfree hk hP1 hD1
  rw [hws] at g1 g2
  exact q r u H1 locs1 hp ⟨g1, g2, hS⟩
end KLW
