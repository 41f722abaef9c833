/-! wrappers of the kit's rows: one environment fact E0, one world fact WD, contracts CG -/
abbrev KT : Type := va_G × ((Nat → ClassId) × (Nat → Nat)) × ((Nat → Prop) → State → Heap → Prop)
abbrev tysK (k : KT) : List (ClassId × FieldType) := [(k.2.1.1 0, .int), (k.2.1.1 1, .long), (k.2.1.1 2, .byte), (k.2.1.1 3, .object "MemoryCourt$Court")]
def KOK (k : KT) : Prop := (∀ (A : Nat → Prop) (s U : State) (H : Heap), s.WarmedH U.vm → k.2.2 A s H → k.2.2 A U H) ∧ (∀ (A : Nat → Prop) (U : State) (H H1 : Heap), (∀ a : Nat, a < H.size → ¬ A a → H1[a]? = H[a]?) → k.2.2 A U H → k.2.2 A U H1) ∧ (∀ (A B : Nat → Prop) (U : State) (H : Heap), (∀ q, B q → A q) → k.2.2 A U H → k.2.2 B U H) ∧ (∀ (A : Nat → Prop) (s U : State) (H : Heap), s.vm = U.vm → k.2.2 A s H → k.2.2 A U H)
def tbOK : Cond → Bool
  | .fieldLinkNest .. => true
  | .methodLinkNest .. => true
  | .declares _ => true
  | .castable .. => true
  | w => goodWord w
def TB (s : State) : Prop := ∀ w ∈ lw_tbl, tbOK w = true → ∀ a' : Array Value, w.before a' s = true
theorem tb_one {w : Cond} (h : tbOK w = true) {A a' : Array Value} {s U : State} (hW : s.WarmedH U.vm) (hw : w.before A s = true) : w.before a' U = true := by
  cases w with
  | fieldLinkNest a i b n d h => exact va_Nw.use rfl (va_Nw.warmF hW (va_Nw.of rfl hw))
  | methodLinkNest a i x h => exact va_Nw.use rfl (va_Nw.warmM hW (va_Nw.of rfl hw))
  | declares x => exact va_Nw.use rfl (va_Nw.warmD hW (va_Nw.of rfl hw))
  | castable C T => exact va_Nw.use rfl (va_Nw.warmC hW (va_Nw.of rfl hw))
  | _ => exact word_at hW (good_of_word (show goodWord _ = true from h)) hw
theorem TB.of {args : Array Value} {s : State} (h : ∀ w ∈ lw_tbl, w.before args s = true) : TB s := fun w hw hg a' => tb_one hg (State.WarmedH.refl s) (h w hw)
theorem TB.warm {s U : State} (hW : s.WarmedH U.vm) (h : TB s) : TB U := fun w hw hg a' => tb_one hg hW (h w hw hg #[])
theorem tb_same {w : Cond} (h : tbOK w = true) {a' : Array Value} {s U : State} (hv : s.vm = U.vm) (hw : ∀ A : Array Value, w.before A s = true) : w.before a' U = true := by
  have hW : s.WarmedH U.vm := hv ▸ State.WarmedH.refl s
  exact tb_one h hW (hw #[])
theorem TB.same {s U : State} (hv : s.vm = U.vm) (h : TB s) : TB U := fun w hw hg a' => tb_same hg hv (h w hw hg)
def Bpre (k : KT) (W0 : va_W) (sz : Nat) : State → Prop := fun U => U.heap.size = sz ∧ va_P k.1 vwCl W0 U.heap ∧ va_K k.1 vwCl (tysK k) U ∧ TB U ∧ KOK k ∧ k.2.2 (va_A W0 sz) U U.heap ∧ va_D (fun _ => True) W0
def Bpost (k : KT) (A : Nat → Prop) (W1 : va_W) (t : State) : Prop := va_P k.1 vwCl W1 t.heap ∧ va_D A W1
def E0 (p : Program) (s : State) (m : MethodId) (c : Code) (cc : ByteArray) (nL : Nat) (own : String) (k : KT) (A : Nat → Prop) : Prop :=
  p.tables.exec = Jvm.exec ∧ c.code = cc ∧ c.maxLocals = nL ∧ s.vm.findClass own = some m.cls ∧ TB s ∧ va_K k.1 vwCl (tysK k) s ∧ KOK k ∧ k.2.2 A s s.heap
def WD (k : KT) (A : Nat → Prop) (H0 : Heap) (ws : va_W) (H : Heap) (locs : List Loc) : Prop := va_P k.1 vwCl ws H ∧ va_D A ws ∧ va_S A H0 H locs
/-- a method that returns -/
def CG (l : Launch) (k : KT) (y : MethodName) (cc : ByteArray) (mx : Nat) (ret : Option FieldType) (fr mc ms loc : Nat) (av : List Value) (W0 : va_W) (Qc : (Nat → Prop) → Array Value → State → Outcome → State → Prop) : Prop :=
  ∀ sz : Nat, Met l y [Cond.code y cc mx ret] { frames := fr, cells := mc, slots := ms, locals := loc } (va_Pc av (Bpre k W0 sz)) (Qc (va_A W0 sz)) mc ms (va_A W0 sz)
abbrev Qi {S : Type} (k : KT) (W1 : S → va_W) (post : Int32 → S → Prop) : (Nat → Prop) → Array Value → State → Outcome → State → Prop := fun A => va_Qi post (fun u t => Bpost k A (W1 u) t) A
abbrev Qv {S : Type} (k : KT) (W1 : S → va_W) (post : S → Prop) : (Nat → Prop) → Array Value → State → Outcome → State → Prop := fun A => va_Qv post (fun u t => Bpost k A (W1 u) t) A
theorem Bpre.blind {k : KT} {W0 : va_W} {sz : Nat} {av : List Value} : FrameBlind (va_Pc av (Bpre k W0 sz)) := by
  intro a U g mk ⟨h0, h1, h2, h3, h4, h5, h6, h7⟩
  exact ⟨h0, h1, h2, va_K.moved (u := U) (U := U.calling g mk a) (Vm.Alike.refl U.vm) h3, TB.same (s := U) (U := U.calling g mk a) rfl h4, h5, h5.2.2.2 _ U (U.calling g mk a) _ rfl h6, h7⟩
theorem CG.of {l : Launch} {k : KT} {y : MethodName} {cc : ByteArray} {mx fr mc ms loc : Nat} {ret : Option FieldType} {av : List Value} {W0 : va_W} {Qc : (Nat → Prop) → Array Value → State → Outcome → State → Prop} (hy : plainName y.cls = true) (hlen : (lg_sl av).length ≤ mx)
    (body : ∀ (p : Program) (e : Env) (s : State) (m : MethodId) (args : Array Value) (below : List Frame) (meth : Method) (c : Code) (A : Nat → Prop), E0 p s m c cc mx y.cls k A → meth.sig.returnType = ret → meth.locks = false → meth.name = y.name → WD k A s.heap W0 s.heap [] → (∀ q : Nat, s.heap.size ≤ q → A q) → ∀ ls : Array Slot, lv_has ls mx (lv_args 0 av) →
      W p l e { frames := fr, cells := mc, slots := ms, locals := loc } s m args below meth c s.heap [] 0 0 (MQ below (Qc A) args s mc ms A) (F0 m 0 ls [])) : CG l k y cc mx ret fr mc ms loc av W0 Qc := by
  intro sz
  refine Met.ofW (cc := cc) (maxL := mx) (ret := ret) hy rfl ?_
  intro p e s m args below meth c s₁ B hml hv
  obtain ⟨rfl, hsz, hP, hK, hT, hok, hSF, hD0⟩ := hv
  subst hsz
  have hnm : meth.name = y.name := (name_of_methodNamed B.named B.method).1
  rw [lg_entry_eq]
  exact body p e s m _ below meth c _ ⟨B.exec, B.bytes, hml, findClass_of_methodNamed B.named, hT, hK, hok, hSF⟩ B.returns B.notSynchronized hnm ⟨hP, hD0.self, va_S.rf⟩ (fun q h => Or.inr h) _ (lv_entry av hlen)
def putW : va_W → List Nat → va_W → va_W
  | ws, i :: is, x :: xs => putW (ws.set i x) is xs
  | ws, _, _ => ws
theorem putW_at : ∀ (is : List Nat) (xs ws : va_W), is.length = xs.length → ∀ (j : Nat) (q : Nat × va_E), (putW ws is xs)[j]? = some q → (∃ i : Nat, is[i]? = some j ∧ xs[i]? = some q) ∨ (j ∉ is ∧ ws[j]? = some q) := by
  intro is
  induction is with
  | nil => intro xs ws hl j q h; exact Or.inr ⟨List.not_mem_nil, by cases xs <;> exact h⟩
  | cons i is ih =>
    intro xs ws hl j q h
    cases xs with
    | nil => simp at hl
    | cons x xs =>
      rcases ih xs (ws.set i x) (by simpa using hl) j q h with ⟨n, h1, h2⟩ | ⟨h1, h2⟩
      · exact Or.inl ⟨n + 1, by simpa using h1, by simpa using h2⟩
      · rw [List.getElem?_set] at h2
        by_cases hij : i = j
        · subst hij
          rw [if_pos rfl] at h2
          split at h2
          · exact Or.inl ⟨0, rfl, by simpa using h2⟩
          · cases h2
        · rw [if_neg hij] at h2
          exact Or.inr ⟨by simp only [List.mem_cons, not_or]; exact ⟨fun e => hij e.symm, h1⟩, h2⟩
theorem call_frame {k : KT} {A : Nat → Prop} {ws W0 W1 : va_W} {H H1 : Heap} (hP : va_P k.1 vwCl ws H) (hD : va_D A ws) (isC : List Nat) (hC : isC.map (fun i => ws[i]?) = W0.map some) (hf : W1.map Prod.fst = W0.map Prod.fst)
    (hk : ∀ q : Nat, q < H.size → ¬ va_A W0 H.size q → H1[q]? = H[q]?) (hP1 : va_P k.1 vwCl W1 H1) : va_P k.1 vwCl (putW ws isC W1) H1 ∧ va_D A (putW ws isC W1) := by
  have hl0 : isC.length = W0.length := by simpa using congrArg List.length hC
  have hl1 : W1.length = W0.length := by simpa using congrArg List.length hf
  have hat : ∀ (i j : Nat), isC[i]? = some j → ∃ q0, W0[i]? = some q0 ∧ ws[j]? = some q0 := by
    intro i j hi
    have h1 : (isC.map (fun i => ws[i]?))[i]? = some (ws[j]?) := by rw [List.getElem?_map, hi]; rfl
    rw [hC, List.getElem?_map] at h1
    cases hq : W0[i]? with
    | none => rw [hq] at h1; cases h1
    | some q0 => rw [hq] at h1; exact ⟨q0, rfl, (Option.some.inj h1).symm⟩
  have hfst : ∀ (i : Nat) (q : Nat × va_E), W1[i]? = some q → ∃ q0, W0[i]? = some q0 ∧ q0.1 = q.1 := by
    intro i q hq
    have h1 : (W1.map Prod.fst)[i]? = some q.1 := by rw [List.getElem?_map, hq]; rfl
    rw [hf, List.getElem?_map] at h1
    cases hq0 : W0[i]? with
    | none => rw [hq0] at h1; cases h1
    | some q0 => rw [hq0] at h1; exact ⟨q0, rfl, Option.some.inj h1⟩
  have key : ∀ (j : Nat) (q : Nat × va_E), (putW ws isC W1)[j]? = some q → va_at k.1 vwCl q H1 ∧ ∃ q0, ws[j]? = some q0 ∧ q0.1 = q.1 := by
    intro j q h
    rcases putW_at isC W1 ws (hl0.trans hl1.symm) j q h with ⟨i, h1, h2⟩ | ⟨h1, h2⟩
    · obtain ⟨q0, g1, g2⟩ := hat i j h1
      obtain ⟨q0', g3, g4⟩ := hfst i q h2
      cases g1.symm.trans g3
      exact ⟨hP1 i q h2, q0, g2, g4⟩
    · refine ⟨(hP j q h2).kept (hk q.1 (hP j q h2).lt (fun hA => ?_)), q, h2, rfl⟩
      rcases hA with ⟨i, e, h3⟩ | h3
      · have hi : i < isC.length := by rw [hl0]; exact (List.getElem?_eq_some_iff.mp h3).1
        obtain ⟨q0, g1, g2⟩ := hat i (isC[i]) (List.getElem?_eq_getElem hi)
        cases g1.symm.trans h3
        have := hD.1 j (isC[i]) q (q.1, e) h2 g2 rfl
        exact h1 (by rw [this]; exact List.getElem_mem hi)
      · exact absurd (hP j q h2).lt (Nat.not_lt.mpr h3)
  refine ⟨fun j q h => (key j q h).1, fun i j x y hx hy hxy => ?_, fun j q h => ?_⟩
  · obtain ⟨-, x0, g1, g2⟩ := key i x hx
    obtain ⟨-, y0, g3, g4⟩ := key j y hy
    exact hD.1 i j x0 y0 g1 g3 (by rw [g2, g4]; exact hxy)
  · obtain ⟨-, x0, g1, g2⟩ := key j q h
    rw [← g2]
    exact hD.2 j x0 g1
section KR
variable {p : Program} {l : Launch} {e : Env} {R : Room} {s : State} {m : MethodId} {args : Array Value} {below : List Frame} {meth : Method} {c : Code} {H : Heap} {locs : List Loc} {cells slots : Nat} {Q : State → Prop}
variable {cc : ByteArray} {pc nL : Nat} {ls : Array Slot} {rest : List Value} {k : KT} {A : Nat → Prop} {ws ws2 : va_W} {H0 : Heap} {own : String} {a : Nat}
theorem E0.hx (E : E0 p s m c cc nL own k A) : p.tables.exec = Jvm.exec := E.1
theorem E0.hb (E : E0 p s m c cc nL own k A) : c.code = cc := E.2.1
theorem E0.hml (E : E0 p s m c cc nL own k A) : c.maxLocals = nL := E.2.2.1
theorem E0.ho (E : E0 p s m c cc nL own k A) : s.vm.findClass own = some m.cls := E.2.2.2.1
theorem E0.tb (E : E0 p s m c cc nL own k A) : TB s := E.2.2.2.2.1
theorem E0.hK (E : E0 p s m c cc nL own k A) : va_K k.1 vwCl (tysK k) s := E.2.2.2.2.2.1
theorem E0.ok (E : E0 p s m c cc nL own k A) : KOK k := E.2.2.2.2.2.2.1
theorem E0.sf (E : E0 p s m c cc nL own k A) : k.2.2 A s s.heap := E.2.2.2.2.2.2.2
theorem E0.w (E : E0 p s m c cc nL own k A) {w : Cond} (h : w ∈ lw_tbl) (hg : tbOK w = true) : w.before args s = true := E.tb w h hg args
theorem E0.fix (E : E0 p s m c cc nL own k A) : CallFix p m c cc nL s args (lw_tbl.filter tbOK) own := ⟨E.hx, E.hb, E.hml, E.ho, fun w hw => E.tb w (List.mem_filter.mp hw).1 (List.mem_filter.mp hw).2 args⟩
/-- locals -/
theorem k_iload_n (E : E0 p s m c cc nL own k A) {nl : Nat} {lv : List (Nat × Value)} (h : lv_has ls nl lv) {kk : Fin 4} (j : Nat) {x : Int32} (hdg : decode cc pc = .ok (.iload_n kk, 1)) (hl : lv[j]? = some ((kk : Nat), .int x))
    (q : W p l e R s m args below meth c H locs cells slots Q (F0 m (pc + 1) ls (.int x :: rest))) : W p l e R s m args below meth c H locs cells slots Q (F0 m pc ls rest) := lv_iload_n E.hx E.hb hdg rfl (lv_at h j hl) q
theorem k_iload (E : E0 p s m c cc nL own k A) {nl : Nat} {lv : List (Nat × Value)} (h : lv_has ls nl lv) {i : Nat} (j : Nat) {x : Int32} (hdg : decode cc pc = .ok (.iload i, 2)) (hl : lv[j]? = some (i, .int x))
    (q : W p l e R s m args below meth c H locs cells slots Q (F0 m (pc + 2) ls (.int x :: rest))) : W p l e R s m args below meth c H locs cells slots Q (F0 m pc ls rest) := lv_iload E.hx E.hb hdg (lv_at h j hl) q
theorem k_aload_n (E : E0 p s m c cc nL own k A) {nl : Nat} {lv : List (Nat × Value)} (h : lv_has ls nl lv) {kk : Fin 4} (j : Nat) {x : Nat} (hdg : decode cc pc = .ok (.aload_n kk, 1)) (hl : lv[j]? = some ((kk : Nat), .ref x))
    (q : W p l e R s m args below meth c H locs cells slots Q (F0 m (pc + 1) ls (.ref x :: rest))) : W p l e R s m args below meth c H locs cells slots Q (F0 m pc ls rest) := lv_aload_n E.hx E.hb hdg rfl (lv_at h j hl) q
theorem k_aload (E : E0 p s m c cc nL own k A) {nl : Nat} {lv : List (Nat × Value)} (h : lv_has ls nl lv) {i : Nat} (j : Nat) {x : Nat} (hdg : decode cc pc = .ok (.aload i, 2)) (hl : lv[j]? = some (i, .ref x))
    (q : W p l e R s m args below meth c H locs cells slots Q (F0 m (pc + 2) ls (.ref x :: rest))) : W p l e R s m args below meth c H locs cells slots Q (F0 m pc ls rest) := lv_aload E.hx E.hb hdg (lv_at h j hl) q
theorem k_istore_n (E : E0 p s m c cc nL own k A) {nl i : Nat} {lv lv' : List (Nat × Value)} {kk : Fin 4} {x x' : Int32} (ex : x' = x) (h : lv_has ls nl lv) (hdg : decode cc pc = .ok (.istore_n kk, 1)) (hi : (kk : Nat) = i) (hn : i < nl) (hl : (i, Value.int x') :: lv.filter (fun q => !(q.1 == i) && !(q.1 + 1 == i && q.2.category == 2)) = lv')
    (q : ∀ ls' : Array Slot, lv_has ls' nl lv' → W p l e R s m args below meth c H locs cells slots Q (F0 m (pc + 1) ls' rest)) : W p l e R s m args below meth c H locs cells slots Q (F0 m pc ls (.int x :: rest)) := by
  subst ex; exact lv_istore_n E.hx E.hb hdg hi h hn hl q
theorem k_istore (E : E0 p s m c cc nL own k A) {nl i : Nat} {lv lv' : List (Nat × Value)} {x x' : Int32} (ex : x' = x) (h : lv_has ls nl lv) (hdg : decode cc pc = .ok (.istore i, 2)) (hn : i < nl) (hl : (i, Value.int x') :: lv.filter (fun q => !(q.1 == i) && !(q.1 + 1 == i && q.2.category == 2)) = lv')
    (q : ∀ ls' : Array Slot, lv_has ls' nl lv' → W p l e R s m args below meth c H locs cells slots Q (F0 m (pc + 2) ls' rest)) : W p l e R s m args below meth c H locs cells slots Q (F0 m pc ls (.int x :: rest)) := by
  subst ex; exact lv_istore E.hx E.hb hdg h hn hl q
theorem k_iinc (E : E0 p s m c cc nL own k A) {nl i : Nat} {lv lv' : List (Nat × Value)} {x x' : Int32} {n : Int} (h : lv_has ls nl lv) (j : Nat) (hdg : decode cc pc = .ok (.iinc i n, 3)) (hk : lv[j]? = some (i, .int x)) (ex : x' = x + Int32.ofInt n) (hn : i < nl) (hl : (i, Value.int x') :: lv.filter (fun q => !(q.1 == i) && !(q.1 + 1 == i && q.2.category == 2)) = lv')
    (q : ∀ ls' : Array Slot, lv_has ls' nl lv' → W p l e R s m args below meth c H locs cells slots Q (F0 m (pc + 3) ls' rest)) : W p l e R s m args below meth c H locs cells slots Q (F0 m pc ls rest) :=
  lv_iinc E.hx E.hb hdg h hk ex.symm hn hl q
theorem k_lload_n (E : E0 p s m c cc nL own k A) {nl : Nat} {lv : List (Nat × Value)} (h : lv_has ls nl lv) {kk : Fin 4} (j : Nat) {x : Int64} (hdg : decode cc pc = .ok (.lload_n kk, 1)) (hl : lv[j]? = some ((kk : Nat), .long x))
    (q : W p l e R s m args below meth c H locs cells slots Q (F0 m (pc + 1) ls (.long x :: rest))) : W p l e R s m args below meth c H locs cells slots Q (F0 m pc ls rest) := lv_lload_n E.hx E.hb hdg rfl (lv_at h j hl) q
theorem k_lload (E : E0 p s m c cc nL own k A) {nl : Nat} {lv : List (Nat × Value)} (h : lv_has ls nl lv) {i : Nat} (j : Nat) {x : Int64} (hdg : decode cc pc = .ok (.lload i, 2)) (hl : lv[j]? = some (i, .long x))
    (q : W p l e R s m args below meth c H locs cells slots Q (F0 m (pc + 2) ls (.long x :: rest))) : W p l e R s m args below meth c H locs cells slots Q (F0 m pc ls rest) := lv_lload E.hx E.hb hdg (lv_at h j hl) q
theorem k_lstore_n (E : E0 p s m c cc nL own k A) {nl i : Nat} {lv lv' : List (Nat × Value)} {kk : Fin 4} {x x' : Int64} (ex : x' = x) (h : lv_has ls nl lv) (hdg : decode cc pc = .ok (.lstore_n kk, 1)) (hi : (kk : Nat) = i) (hn : i + 1 < nl) (hl : (i, Value.long x') :: lv.filter (fun q => !(q.1 == i) && (!(q.1 == i + 1) && !(q.1 + 1 == i && q.2.category == 2))) = lv')
    (q : ∀ ls' : Array Slot, lv_has ls' nl lv' → W p l e R s m args below meth c H locs cells slots Q (F0 m (pc + 1) ls' rest)) : W p l e R s m args below meth c H locs cells slots Q (F0 m pc ls (.long x :: rest)) := by
  subst ex; exact lv_lstore_n E.hx E.hb hdg hi h hn hl q
theorem k_lstore (E : E0 p s m c cc nL own k A) {nl i : Nat} {lv lv' : List (Nat × Value)} {x x' : Int64} (ex : x' = x) (h : lv_has ls nl lv) (hdg : decode cc pc = .ok (.lstore i, 2)) (hn : i + 1 < nl) (hl : (i, Value.long x') :: lv.filter (fun q => !(q.1 == i) && (!(q.1 == i + 1) && !(q.1 + 1 == i && q.2.category == 2))) = lv')
    (q : ∀ ls' : Array Slot, lv_has ls' nl lv' → W p l e R s m args below meth c H locs cells slots Q (F0 m (pc + 2) ls' rest)) : W p l e R s m args below meth c H locs cells slots Q (F0 m pc ls (.long x :: rest)) := by
  subst ex; exact lv_lstore E.hx E.hb hdg h hn hl q
theorem k_topi {x y : Int32} (ex : y = x) (q : W p l e R s m args below meth c H locs cells slots Q (F0 m pc ls (.int y :: rest))) : W p l e R s m args below meth c H locs cells slots Q (F0 m pc ls (.int x :: rest)) := ex ▸ q
theorem k_topl {x y : Int64} (ex : y = x) (q : W p l e R s m args below meth c H locs cells slots Q (F0 m pc ls (.long y :: rest))) : W p l e R s m args below meth c H locs cells slots Q (F0 m pc ls (.long x :: rest)) := ex ▸ q
/-- arrays -/
theorem k_iald (E : E0 p s m c cc nL own k A) (hW : WD k A H0 ws H locs) (q0 : Nat) {n : Nat} {f : Nat → Int32} (ha : ws[q0]? = some (a, .inl (k.2.1.1 0, n, .inl f))) {i : Int32} (hin : vp_in i n) (hdg : decode cc pc = .ok (.iaload, 1))
    (q : W p l e R s m args below meth c H locs cells slots Q (F0 m (pc + 1) ls (.int (f i.toNatClampNeg) :: rest))) : W p l e R s m args below meth c H locs cells slots Q (F0 m pc ls (.int i :: .ref a :: rest)) := va_iald E.hx E.hb E.hK hW.1 q0 0 ha rfl hin hdg q
theorem k_bald (E : E0 p s m c cc nL own k A) (hW : WD k A H0 ws H locs) (q0 : Nat) {n : Nat} {f : Nat → Int32} (ha : ws[q0]? = some (a, .inl (k.2.1.1 2, n, .inl f))) {i : Int32} (hin : vp_in i n) (hdg : decode cc pc = .ok (.baload, 1))
    (q : W p l e R s m args below meth c H locs cells slots Q (F0 m (pc + 1) ls (.int (f i.toNatClampNeg) :: rest))) : W p l e R s m args below meth c H locs cells slots Q (F0 m pc ls (.int i :: .ref a :: rest)) := va_bald E.hx E.hb E.hK hW.1 q0 2 ha rfl hin hdg q
theorem k_lald (E : E0 p s m c cc nL own k A) (hW : WD k A H0 ws H locs) (q0 : Nat) {n : Nat} {f : Nat → Int64} (ha : ws[q0]? = some (a, .inl (k.2.1.1 1, n, .inr (.inl f)))) {i : Int32} (hin : vp_in i n) (hdg : decode cc pc = .ok (.laload, 1))
    (q : W p l e R s m args below meth c H locs cells slots Q (F0 m (pc + 1) ls (.long (f i.toNatClampNeg) :: rest))) : W p l e R s m args below meth c H locs cells slots Q (F0 m pc ls (.int i :: .ref a :: rest)) := va_lald E.hx E.hb E.hK hW.1 q0 1 ha rfl hin hdg q
theorem k_iast (E : E0 p s m c cc nL own k A) (hW : WD k A H0 ws H locs) (q0 : Nat) {n : Nat} {f : Nat → Int32} (ha : ws[q0]? = some (a, .inl (k.2.1.1 0, n, .inl f))) {i x : Int32} (hin : vp_in i n) (hdg : decode cc pc = .ok (.iastore, 1)) (hws : ws.set q0 (a, .inl (k.2.1.1 0, n, .inl (upd f i.toNatClampNeg x))) = ws2)
    (q : ∀ (H1 : Heap) (locs1 : List Loc), WD k A H0 ws2 H1 locs1 → W p l e R s m args below meth c H1 locs1 cells slots Q (F0 m (pc + 1) ls rest)) : W p l e R s m args below meth c H locs cells slots Q (F0 m pc ls (.int x :: .int i :: .ref a :: rest)) := by
  subst hws; exact va_iast E.hx E.hb E.hK hW.1 hW.2.1 hW.2.2 q0 0 ha rfl hin hdg (fun H1 locs1 h1 h2 h3 => q H1 locs1 ⟨h1, h2, h3⟩)
theorem k_bast (E : E0 p s m c cc nL own k A) (hW : WD k A H0 ws H locs) (q0 : Nat) {n : Nat} {f : Nat → Int32} (ha : ws[q0]? = some (a, .inl (k.2.1.1 2, n, .inl f))) {i x : Int32} (hin : vp_in i n) (hdg : decode cc pc = .ok (.bastore, 1)) (hws : ws.set q0 (a, .inl (k.2.1.1 2, n, .inl (upd f i.toNatClampNeg (vp_nar .byte x)))) = ws2)
    (q : ∀ (H1 : Heap) (locs1 : List Loc), WD k A H0 ws2 H1 locs1 → W p l e R s m args below meth c H1 locs1 cells slots Q (F0 m (pc + 1) ls rest)) : W p l e R s m args below meth c H locs cells slots Q (F0 m pc ls (.int x :: .int i :: .ref a :: rest)) := by
  subst hws; exact va_bast E.hx E.hb E.hK hW.1 hW.2.1 hW.2.2 q0 2 ha rfl hin hdg (fun H1 locs1 h1 h2 h3 => q H1 locs1 ⟨h1, h2, h3⟩)
theorem k_last (E : E0 p s m c cc nL own k A) (hW : WD k A H0 ws H locs) (q0 : Nat) {n : Nat} {f : Nat → Int64} (ha : ws[q0]? = some (a, .inl (k.2.1.1 1, n, .inr (.inl f)))) {i : Int32} {x : Int64} (hin : vp_in i n) (hdg : decode cc pc = .ok (.lastore, 1)) (hws : ws.set q0 (a, .inl (k.2.1.1 1, n, .inr (.inl (vp_updL f i.toNatClampNeg x)))) = ws2)
    (q : ∀ (H1 : Heap) (locs1 : List Loc), WD k A H0 ws2 H1 locs1 → W p l e R s m args below meth c H1 locs1 cells slots Q (F0 m (pc + 1) ls rest)) : W p l e R s m args below meth c H locs cells slots Q (F0 m pc ls (.long x :: .int i :: .ref a :: rest)) := by
  subst hws; exact va_last E.hx E.hb E.hK hW.1 hW.2.1 hW.2.2 q0 1 ha rfl hin hdg (fun H1 locs1 h1 h2 h3 => q H1 locs1 ⟨h1, h2, h3⟩)
theorem k_alen (E : E0 p s m c cc nL own k A) (hW : WD k A H0 ws H locs) (q0 t0 : Nat) {x : vp_A} {cA : ClassId} {ty : FieldType} (ha : ws[q0]? = some (a, .inl (cA, x))) (ht : (tysK k)[t0]? = some (cA, ty)) {v : Int32} (hv : Int32.ofNat x.1 = v) (hdg : decode cc pc = .ok (.arraylength, 1))
    (q : W p l e R s m args below meth c H locs cells slots Q (F0 m (pc + 1) ls (.int v :: rest))) : W p l e R s m args below meth c H locs cells slots Q (F0 m pc ls (.ref a :: rest)) := va_alen E.hx E.hb E.hK hW.1 q0 t0 ha ht hv hdg q
/-- ends -/
theorem k_ret_i {S : Type} {mc ms : Nat} {W1 : S → va_W} {post : Int32 → S → Prop} {ty : FieldType} {v : Int32} {u : S} (E : E0 p s m c cc nL own k A) (hr : meth.sig.returnType = some ty) (hlk : meth.locks = false) (hW : WD k A s.heap (W1 u) H locs) (hp : post v u) (hn : narrow ty (.int v) = .int v) (h1 : cells ≤ mc) (h2 : slots ≤ ms) (hdg : decode cc pc = .ok (.ireturn, 1)) :
    W p l e R s m args below meth c H locs cells slots (MQ below (Qi k W1 post A) args s mc ms A) (F0 m pc ls [.int v]) :=
  W.widen h1 h2 (W.zret E.hx E.hb hr hn (fun t ht hw => ⟨⟨v, u, rfl, hp, by rw [ht]; exact hW.1, hW.2.1⟩, hW.2.2.F ht⟩) hW.2.2.2.2 hdg hlk)
theorem k_ret_v {S : Type} {mc ms : Nat} {W1 : S → va_W} {post : S → Prop} {u : S} (E : E0 p s m c cc nL own k A) (hr : meth.sig.returnType = none) (hlk : meth.locks = false) (hW : WD k A s.heap (W1 u) H locs) (hp : post u) (h1 : cells ≤ mc) (h2 : slots ≤ ms) (hdg : decode cc pc = .ok (.return_, 1)) :
    W p l e R s m args below meth c H locs cells slots (MQ below (Qv k W1 post A) args s mc ms A) (F0 m pc ls []) :=
  W.widen h1 h2 (W.vret E.hx E.hb hr (fun t ht hw => ⟨⟨u, rfl, hp, by rw [ht]; exact hW.1, hW.2.1⟩, hW.2.2.F ht⟩) hW.2.2.2.2 hdg hlk)
/-- what the tables say of a call site -/
def VL (own : String) (index : Nat) (C : String) (y : MethodName) (bytes : ByteArray) (mx : Nat) (ret : Option FieldType) (n : Nat) : Prop :=
  (Cond.methodLink own index y ∈ lw_tbl ∧ Cond.instanceMethod y ∈ lw_tbl ∧ Cond.selects C y y ∈ lw_tbl ∧ Cond.initialized C ∈ lw_tbl ∧ Cond.code y bytes mx ret ∈ lw_tbl) ∧ y.cls = C ∧ y.cls ≠ "java/lang/invoke/MethodHandle" ∧ y.cls ≠ "java/lang/invoke/VarHandle" ∧ (parseMethodDescriptor y.desc).map (fun d => d.parameters.length) = some n
def SL (own : String) (index : Nat) (y : MethodName) (bytes : ByteArray) (mx : Nat) (ret : Option FieldType) (n : Nat) : Prop :=
  (Cond.methodLink own index y ∈ lw_tbl ∧ Cond.static y ∈ lw_tbl ∧ Cond.initialized y.cls ∈ lw_tbl ∧ Cond.code y bytes mx ret ∈ lw_tbl) ∧ y.cls ≠ "java/lang/invoke/MethodHandle" ∧ y.cls ≠ "java/lang/invoke/VarHandle" ∧ (parseMethodDescriptor y.desc).map (fun d => d.parameters.length) = some n
theorem VL.cw {C : String} {index mx n fr mc ms loc : Nat} {y : MethodName} {bytes : ByteArray} {ret : Option FieldType} (h : VL own index C y bytes mx ret n) (E : E0 p s m c cc nL own k A) (hR : fr + 1 ≤ R.frames ∧ 8 + (mx + 11) + loc ≤ R.locals) :
    CallW R s args own C index y bytes mx ret [Cond.code y bytes mx ret] { frames := fr, cells := mc, slots := ms, locals := loc } mc ms n := by
  obtain ⟨⟨h1, h2, h3, h4, h5⟩, hC, hd⟩ := h
  subst hC
  exact ⟨callB_of (Ts := lw_tbl.filter tbOK) n E.fix.2.2.2.2 (fun w hw => by rw [List.mem_singleton.mp hw]; exact ⟨List.mem_filter.mpr ⟨h5, rfl⟩, Or.inl rfl⟩) rfl rfl rfl (E.w h4 rfl) (E.w h1 rfl) hd hR, E.w h2 rfl, E.w h3 rfl⟩
theorem SL.cw {index mx n fr mc ms loc : Nat} {y : MethodName} {bytes : ByteArray} {ret : Option FieldType} (h : SL own index y bytes mx ret n) (E : E0 p s m c cc nL own k A) (hR : fr + 1 ≤ R.frames ∧ 8 + (mx + 11) + loc ≤ R.locals) :
    CallB R s args own index y bytes mx ret [Cond.code y bytes mx ret] { frames := fr, cells := mc, slots := ms, locals := loc } mc ms n ∧ (Cond.static y).before args s = true := by
  obtain ⟨⟨h1, h2, h4, h5⟩, hd⟩ := h
  exact ⟨callB_of (Ts := lw_tbl.filter tbOK) n E.fix.2.2.2.2 (fun w hw => by rw [List.mem_singleton.mp hw]; exact ⟨List.mem_filter.mpr ⟨h5, rfl⟩, Or.inl rfl⟩) rfl rfl rfl (E.w h4 rfl) (E.w h1 rfl) hd hR, E.w h2 rfl⟩
theorem pre_call {W0 : va_W} (E : E0 p s m c cc nL own k A) (hH : H0 = s.heap) (hW : WD k A H0 ws H locs) (hA : ∀ q : Nat, H0.size ≤ q → A q) (isC : List Nat) (hC : isC.map (fun i => ws[i]?) = W0.map some) (hnd : va_nd isC = true) :
    (∀ q, va_A W0 H.size q → A q) ∧ ∀ U : State, U.heap = H → s.WarmedH U.vm → Bpre k W0 H.size U := by
  subst hH
  have hfree := va_free hW.2.1 hW.2.2 hA isC hC
  refine ⟨hfree, fun U hU hw => ⟨by rw [hU], ?_, va_K.moved hw.alike E.hK, TB.warm hw E.tb, E.ok, ?_, ?_⟩⟩
  · rw [hU]
    intro j q hq
    have h1 : (isC.map (fun i => ws[i]?))[j]? = some (some q) := by rw [hC, List.getElem?_map, hq]; rfl
    rw [List.getElem?_map] at h1
    cases hi : isC[j]? with
    | none => rw [hi] at h1; cases h1
    | some i => rw [hi] at h1; exact hW.1 i q (Option.some.inj h1)
  · rw [hU]
    exact E.ok.2.2.1 A _ U H hfree (E.ok.2.1 A U s.heap H hW.2.2.2.1 (E.ok.1 A s U s.heap hw E.sf))
  · exact (hW.2.1.sub isC hnd hC).weaken (fun _ _ _ _ => trivial)
theorem k_callVi {C : String} {index mx n fr mc ms loc : Nat} {y : MethodName} {bytes : ByteArray} {ret : Option FieldType} {S : Type} {W0 : va_W} {W1 : S → va_W} {post : Int32 → S → Prop} {As : List Value} {lv : List (Nat × Value)} {st0 : List Value} {fs : List Value} {T : u_T} {N : Nat}
    (hM : CG l k y bytes mx ret fr mc ms loc (.ref a :: As) W0 (Qi k W1 post)) (E : E0 p s m c cc nL own k A) (hV : VL own index C y bytes mx ret n) (hdg : decode cc pc = .ok (.invokevirtual index, 3)) (hst : st0 = As.reverse ++ .ref a :: rest) (isC : List Nat) (ci q0 : Nat)
    (hW : WD k A s.heap ws H locs) (hA : ∀ q : Nat, s.heap.size ≤ q → A q) (hl : lv_has ls nL lv) (hn : As.length = n) (hC : isC.map (fun i => ws[i]?) = W0.map some) (hc : vwCl[ci]? = some (C, T, N)) (he : ws[q0]? = some (a, .inr (ci, fs))) (hR : fr + 1 ≤ R.frames ∧ 8 + (mx + 11) + loc ≤ R.locals) (hroom : cells + mc ≤ R.cells ∧ slots + ms ≤ R.slots) (hcat : (rest.map fun v => v.category).sum ≤ 8) (hnd : va_nd isC = true) (hf : ∀ u, (W1 u).map Prod.fst = W0.map Prod.fst) {ws2 : S → va_W} (hws : ∀ u, putW ws isC (W1 u) = ws2 u)
    (q : ∀ (r : Int32) (u : S) (H1 : Heap) (locs1 : List Loc), post r u → WD k A s.heap (ws2 u) H1 locs1 → W p l e R s m args below meth c H1 locs1 (cells + mc) (slots + ms) Q (F0 m (pc + 3) ls (.int r :: rest))) : W p l e R s m args below meth c H locs cells slots Q (F0 m pc ls st0) := by
  subst hst
  obtain ⟨hfree, hpre⟩ := pre_call E rfl hW hA isC hC hnd
  refine va_calli (va_runV (As := As) (rest := rest) E.fix (hM H.size) (hV.cw E hR) ⟨Bpre.blind, va_recv E.hK hW.1 hc he, fun U hU hw => ⟨rfl, hpre U hU hw⟩⟩ rfl hn hl.1 rfl (lv_room hcat) hdg hroom) hW.2.2 (fun q _ h => hfree q h) hfree (fun r u t H1 locs1 ht hvm hp hB hz hk hS => ?_)
  obtain ⟨hP1, hD1⟩ := hB
  rw [ht] at hP1
  obtain ⟨g1, g2⟩ := call_frame hW.1 hW.2.1 isC hC (hf u) hk hP1
  rw [hws] at g1 g2
  exact q r u H1 locs1 hp ⟨g1, g2, hS⟩
theorem k_callVv {C : String} {index mx n fr mc ms loc : Nat} {y : MethodName} {bytes : ByteArray} {ret : Option FieldType} {S : Type} {W0 : va_W} {W1 : S → va_W} {post : S → Prop} {As : List Value} {lv : List (Nat × Value)} {st0 : List Value} {fs : List Value} {T : u_T} {N : Nat}
    (hM : CG l k y bytes mx ret fr mc ms loc (.ref a :: As) W0 (Qv k W1 post)) (E : E0 p s m c cc nL own k A) (hV : VL own index C y bytes mx ret n) (hdg : decode cc pc = .ok (.invokevirtual index, 3)) (hst : st0 = As.reverse ++ .ref a :: rest) (isC : List Nat) (ci q0 : Nat)
    (hW : WD k A s.heap ws H locs) (hA : ∀ q : Nat, s.heap.size ≤ q → A q) (hl : lv_has ls nL lv) (hn : As.length = n) (hC : isC.map (fun i => ws[i]?) = W0.map some) (hc : vwCl[ci]? = some (C, T, N)) (he : ws[q0]? = some (a, .inr (ci, fs))) (hR : fr + 1 ≤ R.frames ∧ 8 + (mx + 11) + loc ≤ R.locals) (hroom : cells + mc ≤ R.cells ∧ slots + ms ≤ R.slots) (hcat : (rest.map fun v => v.category).sum ≤ 8) (hnd : va_nd isC = true) (hf : ∀ u, (W1 u).map Prod.fst = W0.map Prod.fst) {ws2 : S → va_W} (hws : ∀ u, putW ws isC (W1 u) = ws2 u)
    (q : ∀ (u : S) (H1 : Heap) (locs1 : List Loc), post u → WD k A s.heap (ws2 u) H1 locs1 → W p l e R s m args below meth c H1 locs1 (cells + mc) (slots + ms) Q (F0 m (pc + 3) ls rest)) : W p l e R s m args below meth c H locs cells slots Q (F0 m pc ls st0) := by
  subst hst
  obtain ⟨hfree, hpre⟩ := pre_call E rfl hW hA isC hC hnd
  refine va_callv (va_runV (As := As) (rest := rest) E.fix (hM H.size) (hV.cw E hR) ⟨Bpre.blind, va_recv E.hK hW.1 hc he, fun U hU hw => ⟨rfl, hpre U hU hw⟩⟩ rfl hn hl.1 rfl (lv_room hcat) hdg hroom) hW.2.2 (fun q _ h => hfree q h) hfree (fun u t H1 locs1 ht hvm hp hB hz hk hS => ?_)
  obtain ⟨hP1, hD1⟩ := hB
  rw [ht] at hP1
  obtain ⟨g1, g2⟩ := call_frame hW.1 hW.2.1 isC hC (hf u) hk hP1
  rw [hws] at g1 g2
  exact q u H1 locs1 hp ⟨g1, g2, hS⟩
theorem k_callSi {index mx n fr mc ms loc : Nat} {y : MethodName} {bytes : ByteArray} {ret : Option FieldType} {S : Type} {W0 : va_W} {W1 : S → va_W} {post : Int32 → S → Prop} {As : List Value} {lv : List (Nat × Value)} {st0 : List Value}
    (hM : CG l k y bytes mx ret fr mc ms loc As W0 (Qi k W1 post)) (E : E0 p s m c cc nL own k A) (hV : SL own index y bytes mx ret n) (hdg : decode cc pc = .ok (.invokestatic index, 3)) (hst : st0 = As.reverse ++ rest) (isC : List Nat)
    (hW : WD k A s.heap ws H locs) (hA : ∀ q : Nat, s.heap.size ≤ q → A q) (hl : lv_has ls nL lv) (hn : As.length = n) (hC : isC.map (fun i => ws[i]?) = W0.map some) (hR : fr + 1 ≤ R.frames ∧ 8 + (mx + 11) + loc ≤ R.locals) (hroom : cells + mc ≤ R.cells ∧ slots + ms ≤ R.slots) (hcat : (rest.map fun v => v.category).sum ≤ 8) (hnd : va_nd isC = true) (hf : ∀ u, (W1 u).map Prod.fst = W0.map Prod.fst) {ws2 : S → va_W} (hws : ∀ u, putW ws isC (W1 u) = ws2 u)
    (q : ∀ (r : Int32) (u : S) (H1 : Heap) (locs1 : List Loc), post r u → WD k A s.heap (ws2 u) H1 locs1 → W p l e R s m args below meth c H1 locs1 (cells + mc) (slots + ms) Q (F0 m (pc + 3) ls (.int r :: rest))) : W p l e R s m args below meth c H locs cells slots Q (F0 m pc ls st0) := by
  subst hst
  obtain ⟨hfree, hpre⟩ := pre_call E rfl hW hA isC hC hnd
  refine va_calli (va_runS (As := As) (rest := rest) E.fix (hM H.size) (hV.cw E hR) ⟨Bpre.blind, fun U hU hw => ⟨rfl, hpre U hU hw⟩⟩ rfl hn hl.1 rfl (lv_room hcat) hdg hroom) hW.2.2 (fun q _ h => hfree q h) hfree (fun r u t H1 locs1 ht hvm hp hB hz hk hS => ?_)
  obtain ⟨hP1, hD1⟩ := hB
  rw [ht] at hP1
  obtain ⟨g1, g2⟩ := call_frame hW.1 hW.2.1 isC hC (hf u) hk hP1
  rw [hws] at g1 g2
  exact q r u H1 locs1 hp ⟨g1, g2, hS⟩
theorem k_callSv {index mx n fr mc ms loc : Nat} {y : MethodName} {bytes : ByteArray} {ret : Option FieldType} {S : Type} {W0 : va_W} {W1 : S → va_W} {post : S → Prop} {As : List Value} {lv : List (Nat × Value)} {st0 : List Value}
    (hM : CG l k y bytes mx ret fr mc ms loc As W0 (Qv k W1 post)) (E : E0 p s m c cc nL own k A) (hV : SL own index y bytes mx ret n) (hdg : decode cc pc = .ok (.invokestatic index, 3)) (hst : st0 = As.reverse ++ rest) (isC : List Nat)
    (hW : WD k A s.heap ws H locs) (hA : ∀ q : Nat, s.heap.size ≤ q → A q) (hl : lv_has ls nL lv) (hn : As.length = n) (hC : isC.map (fun i => ws[i]?) = W0.map some) (hR : fr + 1 ≤ R.frames ∧ 8 + (mx + 11) + loc ≤ R.locals) (hroom : cells + mc ≤ R.cells ∧ slots + ms ≤ R.slots) (hcat : (rest.map fun v => v.category).sum ≤ 8) (hnd : va_nd isC = true) (hf : ∀ u, (W1 u).map Prod.fst = W0.map Prod.fst) {ws2 : S → va_W} (hws : ∀ u, putW ws isC (W1 u) = ws2 u)
    (q : ∀ (u : S) (H1 : Heap) (locs1 : List Loc), post u → WD k A s.heap (ws2 u) H1 locs1 → W p l e R s m args below meth c H1 locs1 (cells + mc) (slots + ms) Q (F0 m (pc + 3) ls rest)) : W p l e R s m args below meth c H locs cells slots Q (F0 m pc ls st0) := by
  subst hst
  obtain ⟨hfree, hpre⟩ := pre_call E rfl hW hA isC hC hnd
  refine va_callv (va_runS (As := As) (rest := rest) E.fix (hM H.size) (hV.cw E hR) ⟨Bpre.blind, fun U hU hw => ⟨rfl, hpre U hU hw⟩⟩ rfl hn hl.1 rfl (lv_room hcat) hdg hroom) hW.2.2 (fun q _ h => hfree q h) hfree (fun u t H1 locs1 ht hvm hp hB hz hk hS => ?_)
  obtain ⟨hP1, hD1⟩ := hB
  rw [ht] at hP1
  obtain ⟨g1, g2⟩ := call_frame hW.1 hW.2.1 isC hC (hf u) hk hP1
  rw [hws] at g1 g2
  exact q u H1 locs1 hp ⟨g1, g2, hS⟩
end KR
