/-! pure words: object states, binds, guards; what a world is -/
def wordAd (k : KT) (v : Int32) : Nat := k.2.1.2 v.toNatClampNeg
abbrev OS : Type := (Nat → Int32) × (Nat → Nat → Int32) × (Nat → Nat → Int64) × (Nat → Int64)
def sI (c : OS) (j : Nat) (v : Int32) : OS := (upd c.1 j v, c.2)
def sA (c : OS) (j : Nat) (f : Nat → Int32) : OS := (c.1, (fun i => if i = j then f else c.2.1 i), c.2.2)
def sL (c : OS) (j : Nat) (f : Nat → Int64) : OS := (c.1, c.2.1, (fun i => if i = j then f else c.2.2.1 i), c.2.2.2)
def sl (c : OS) (j : Nat) (v : Int64) : OS := (c.1, c.2.1, c.2.2.1, vp_updL c.2.2.2 j v)
def Let {α β : Type} (e : α) (f : α → Option β) : Option β := f e
def bnd {α β : Type} (o : Option α) (f : α → Option β) : Option β := o.bind f
def bnd2 {α1 α2 β : Type} (o : Option (α1 × α2)) (f : α1 → α2 → Option β) : Option β := o.bind (fun x => f x.1 x.2)
def bnd3 {α1 α2 α3 β : Type} (o : Option (α1 × α2 × α3)) (f : α1 → α2 → α3 → Option β) : Option β := o.bind (fun x => f x.1 x.2.1 x.2.2)
def bnd4 {α1 α2 α3 α4 β : Type} (o : Option (α1 × α2 × α3 × α4)) (f : α1 → α2 → α3 → α4 → Option β) : Option β := o.bind (fun x => f x.1 x.2.1 x.2.2.1 x.2.2.2)
def gI {β : Type} (z : Nat) (i : Int32) (o : Option β) : Option β := if i < 0 ∨ z ≤ i.toNatClampNeg then none else o
def gZ {β : Type} (v : Int32) (o : Option β) : Option β := if v = 0 ∨ v = 1 then o else none
def oN {β : Type} (c : Prop) [Decidable c] (o : Option β) : Option β := if c then none else o
def rm32 (x y : Int32) : Int32 := x - x / y * y
theorem oL {α β : Type} {e : α} {f : α → Option β} {r : β} (h : Let e f = some r) : ∃ x, x = e ∧ f x = some r := ⟨e, rfl, h⟩
theorem ob {α β : Type} {o : Option α} {f : α → Option β} {r : β} (h : bnd o f = some r) : ∃ x, o = some x ∧ f x = some r := by
  cases o with
  | none => cases h
  | some x => exact ⟨x, rfl, h⟩
theorem ob2 {α1 α2 β : Type} {o : Option (α1 × α2)} {f : α1 → α2 → Option β} {r : β} (h : bnd2 o f = some r) : ∃ x y, o = some (x, y) ∧ f x y = some r := by
  cases o with
  | none => cases h
  | some x => exact ⟨x.1, x.2, rfl, h⟩
theorem ob3 {α1 α2 α3 β : Type} {o : Option (α1 × α2 × α3)} {f : α1 → α2 → α3 → Option β} {r : β} (h : bnd3 o f = some r) : ∃ x y z, o = some (x, y, z) ∧ f x y z = some r := by
  cases o with
  | none => cases h
  | some x => exact ⟨x.1, x.2.1, x.2.2, rfl, h⟩
theorem ob4 {α1 α2 α3 α4 β : Type} {o : Option (α1 × α2 × α3 × α4)} {f : α1 → α2 → α3 → α4 → Option β} {r : β} (h : bnd4 o f = some r) : ∃ x y z w, o = some (x, y, z, w) ∧ f x y z w = some r := by
  cases o with
  | none => cases h
  | some x => exact ⟨x.1, x.2.1, x.2.2.1, x.2.2.2, rfl, h⟩
theorem oI {β : Type} {z : Nat} {i : Int32} {o : Option β} {r : β} (h : gI z i o = some r) : vp_in i z ∧ o = some r := by
  unfold gI at h
  split at h
  · cases h
  · exact ⟨by assumption, h⟩
theorem oG {β : Type} {c : Prop} [Decidable c] {o : Option β} {r : β} (h : oN c o = some r) : ¬ c ∧ o = some r := by
  unfold oN at h
  split at h
  · cases h
  · exact ⟨by assumption, h⟩
theorem oZ {β : Type} {v : Int32} {o : Option β} {r : β} (h : gZ v o = some r) : narrow .boolean (.int v) = .int v ∧ o = some r := by
  unfold gZ at h
  split at h
  · refine ⟨?_, h⟩
    rename_i hv
    rcases hv with hv | hv <;> subst hv <;> decide
  · cases h
theorem oT {β : Type} {c : Prop} [Decidable c] {a b : Option β} {r : β} (hc : c) (h : (if c then a else b) = some r) : a = some r := by rwa [if_pos hc] at h
theorem oF {β : Type} {c : Prop} [Decidable c] {a b : Option β} {r : β} (hc : ¬ c) (h : (if c then a else b) = some r) : b = some r := by rwa [if_neg hc] at h
theorem o0 {β : Type} {r : β} {P : Prop} (h : (none : Option β) = some r) : P := by cases h
theorem CG.ofI {l : Launch} {k : KT} {y : MethodName} {cc : ByteArray} {mx fr mc ms loc : Nat} {ty : FieldType} {av : List Value} {W0 : va_W} {S : Type} {W1 : S → va_W} {post : Int32 → S → Prop} (hy : plainName y.cls = true) (hlen : (lg_sl av).length ≤ mx)
    (body : ∀ (p : Program) (e : Env) (s : State) (m : MethodId) (args : Array Value) (below : List Frame) (meth : Method) (c : Code) (A : Nat → Prop) (Q : State → Prop), E0 p s m c cc mx y.cls k A → meth.name = y.name → WD k A s.heap W0 s.heap [] → (∀ q : Nat, s.heap.size ≤ q → A q) →
      (∀ (v : Int32) (u : S) (H : Heap) (locs : List Loc) (cells slots pc : Nat) (ls : Array Slot), WD k A s.heap (W1 u) H locs → post v u → narrow ty (.int v) = .int v → cells ≤ mc → slots ≤ ms → decode cc pc = .ok (.ireturn, 1) → W p l e { frames := fr, cells := mc, slots := ms, locals := loc } s m args below meth c H locs cells slots Q (F0 m pc ls [.int v])) →
      ∀ ls : Array Slot, lv_has ls mx (lv_args 0 av) → W p l e { frames := fr, cells := mc, slots := ms, locals := loc } s m args below meth c s.heap [] 0 0 Q (F0 m 0 ls [])) : CG l k y cc mx (some ty) fr mc ms loc av W0 (Qi k W1 post) :=
  CG.of hy hlen (fun p e s m args below meth c A E hr hlk hnm hW hA ls hl => body p e s m args below meth c A _ E hnm hW hA (fun v u H locs cells slots pc ls hW hp hn h1 h2 hdg => k_ret_i E hr hlk hW hp hn h1 h2 hdg) ls hl)
theorem CG.ofV {l : Launch} {k : KT} {y : MethodName} {cc : ByteArray} {mx fr mc ms loc : Nat} {av : List Value} {W0 : va_W} {S : Type} {W1 : S → va_W} {post : S → Prop} (hy : plainName y.cls = true) (hlen : (lg_sl av).length ≤ mx)
    (body : ∀ (p : Program) (e : Env) (s : State) (m : MethodId) (args : Array Value) (below : List Frame) (meth : Method) (c : Code) (A : Nat → Prop) (Q : State → Prop), E0 p s m c cc mx y.cls k A → meth.name = y.name → WD k A s.heap W0 s.heap [] → (∀ q : Nat, s.heap.size ≤ q → A q) →
      (∀ (u : S) (H : Heap) (locs : List Loc) (cells slots pc : Nat) (ls : Array Slot), WD k A s.heap (W1 u) H locs → post u → cells ≤ mc → slots ≤ ms → decode cc pc = .ok (.return_, 1) → W p l e { frames := fr, cells := mc, slots := ms, locals := loc } s m args below meth c H locs cells slots Q (F0 m pc ls [])) →
      ∀ ls : Array Slot, lv_has ls mx (lv_args 0 av) → W p l e { frames := fr, cells := mc, slots := ms, locals := loc } s m args below meth c s.heap [] 0 0 Q (F0 m 0 ls [])) : CG l k y cc mx none fr mc ms loc av W0 (Qv k W1 post) :=
  CG.of hy hlen (fun p e s m args below meth c A E hr hlk hnm hW hA ls hl => body p e s m args below meth c A _ E hnm hW hA (fun u H locs cells slots pc ls hW hp h1 h2 hdg => k_ret_v E hr hlk hW hp h1 h2 hdg) ls hl)
def wBytes (k : KT) (a : Nat → Nat)  (z : Nat) (c : OS) : va_W := [(a 0, .inr (2, [.ref (a 1), .int (c.1 1)])), (a 1, .inl (k.2.1.1 2, z, .inl (c.2.1 0)))]
def wTable (k : KT) (a : Nat → Nat)  (cols : Int32) (z : Nat) (c : Nat → Int32) : va_W := [(a 0, .inr (7, [.int cols, .ref (a 1)])), (a 1, .inl (k.2.1.1 0, z, .inl c))]
def wRules (k : KT) (a : Nat → Nat)   (c : OS) : va_W := [(a 0, .inr (6, [.int (c.1 0), .int (c.1 1), .int (c.1 2), .int (c.1 3), .int (c.1 4), .int (c.1 5), .int (c.1 6), .ref (a 1)])), (a 1, .inr (7, [.int (7 : Int32), .ref (a 2)])), (a 2, .inl (k.2.1.1 0, 56, .inl (c.2.1 7)))]
def wCourt (k : KT) (a : Nat → Nat)   (c : OS) : va_W := [(a 0, .inr (3, [.int (c.1 0), .int (c.1 1), .int (c.1 2), .int (c.1 3), .int (c.1 4), .int (c.1 5), .int (c.1 6), .int (c.1 7), .int (c.1 8), .ref (a 1), .ref (a 2), .ref (a 3), .ref (a 5), .ref (a 7), .ref (a 9), .ref (a 11)])), (a 1, .inl (k.2.1.1 1, 251, .inr (.inl (c.2.2.1 9)))), (a 2, .inl (k.2.1.1 0, 64, .inl (c.2.1 10))), (a 3, .inr (7, [.int (5 : Int32), .ref (a 4)])), (a 4, .inl (k.2.1.1 0, 40, .inl (c.2.1 11))), (a 5, .inr (7, [.int (8 : Int32), .ref (a 6)])), (a 6, .inl (k.2.1.1 0, 640, .inl (c.2.1 12))), (a 7, .inr (7, [.int (7 : Int32), .ref (a 8)])), (a 8, .inl (k.2.1.1 0, 420, .inl (c.2.1 13))), (a 9, .inr (7, [.int (8 : Int32), .ref (a 10)])), (a 10, .inl (k.2.1.1 0, 320, .inl (c.2.1 14))), (a 11, .inl (k.2.1.1 0, 60, .inl (c.2.1 15)))]
def wReader (k : KT) (a : Nat → Nat) (x_input : Nat) (x_court : Nat) (x_rules : Nat)  (c : OS) : va_W := [(a 0, .inr (5, [.ref x_input, .ref x_court, .ref x_rules, .int (c.1 3), .int (c.1 4), .int (c.1 5), .int (c.1 6), .int (c.1 7), .ref (wordAd k (c.1 8)), .int (c.1 9), .int (c.1 10), .int (c.1 11)]))]
def wIArr (k : KT) (a : Nat → Nat)  (z : Nat) (c : Nat → Int32) : va_W := [(a 0, .inl (k.2.1.1 0, z, .inl c))]
def wJArr (k : KT) (a : Nat → Nat)  (z : Nat) (c : Nat → Int64) : va_W := [(a 0, .inl (k.2.1.1 1, z, .inr (.inl c)))]
def wBArr (k : KT) (a : Nat → Nat)  (z : Nat) (c : Nat → Int32) : va_W := [(a 0, .inl (k.2.1.1 2, z, .inl c))]
theorem tbl_laysX1 : ∀ w ∈ wsX10, tbOK w = true := by decide +kernel
theorem tbl_laysX2 : ∀ w ∈ wsX20, tbOK w = true := by decide +kernel
theorem tbl_laysX3 : ∀ w ∈ wsX30, tbOK w = true := by decide +kernel
theorem tbl_laysX4 : ∀ w ∈ wsX40, tbOK w = true := by decide +kernel
theorem tbl_laysX5 : ∀ w ∈ wsX50, tbOK w = true := by decide +kernel
theorem tbl_laysX6 : ∀ w ∈ wsX60, tbOK w = true := by decide +kernel
theorem tbl_laysX8 : ∀ w ∈ wsX80, tbOK w = true := by decide +kernel
