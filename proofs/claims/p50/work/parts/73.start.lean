theorem tm_63 : (Jvm.Cond.instantiable "MemoryCourt" (9 : Nat)) ∈ lw_tbl := List.mem_of_getElem? (i := 63) (by decide +kernel)
theorem tm_275 : (Jvm.Cond.arrayOver (Jvm.ClassFile.FieldType.object "MemoryCourt$Court")) ∈ lw_tbl := List.mem_of_getElem? (i := 275) (by decide +kernel)
/-! the start: what the statics hold, all the law long -/
def DGP (A : Nat → Prop) (U : State) (H : Heap) : Prop := (∃ t : Nat, va_Z "java/lang/Integer" "DigitOnes" "[B" (.ref t) A U H ∧ va_T .byte t 100 (fun i => .int (dgOne i)) A U H) ∧ ∃ t : Nat, va_Z "java/lang/Integer" "DigitTens" "[B" (.ref t) A U H ∧ va_T .byte t 100 (fun i => .int (dgTen i)) A U H
def SFc (ad : Nat → Nat) (b L : Nat) (xs : Nat → Int32) (A : Nat → Prop) (U : State) (H : Heap) : Prop := ESF ad A U H ∧ va_AO "MemoryCourt$Court" U ∧ (∀ y ∈ sbPriv, ∀ a : Array Value, (Cond.selects RJ4 y y).before a U = true) ∧ DGP A U H ∧ va_X b L xs U H ∧ b < H.size ∧ ¬ A b
theorem DGP.moved {A : Nat → Prop} {s U : State} {H : Heap} (hm : s.vm.Alike U.vm) (h : DGP A s H) : DGP A U H := by
  obtain ⟨⟨t, h1, h2⟩, ⟨t2, h3, h4⟩⟩ := h
  exact ⟨⟨t, va_Z.moved hm h1, va_T.moved hm h2⟩, ⟨t2, va_Z.moved hm h3, va_T.moved hm h4⟩⟩
theorem DGP.kept {A : Nat → Prop} {U : State} {H H1 : Heap} (h : DGP A U H) (hq : ∀ a : Nat, a < H.size → ¬ A a → H1[a]? = H[a]?) : DGP A U H1 := by
  obtain ⟨⟨t, h1, h2⟩, ⟨t2, h3, h4⟩⟩ := h
  exact ⟨⟨t, h1.kept hq, h2.kept hq⟩, ⟨t2, h3.kept hq, h4.kept hq⟩⟩
theorem DGP.narrow {A B : Nat → Prop} {U : State} {H : Heap} (h : DGP A U H) (hAB : ∀ q, B q → A q) : DGP B U H := by
  obtain ⟨⟨t, h1, h2⟩, ⟨t2, h3, h4⟩⟩ := h
  exact ⟨⟨t, h1.narrow hAB, h2.narrow hAB⟩, ⟨t2, h3.narrow hAB, h4.narrow hAB⟩⟩
theorem ESF.gen {ad : Nat → Nat} {A : Nat → Prop} {s U : State} {H : Heap} (hm : s.vm.Alike U.vm) (hr : ∀ (own : String) (k : Nat) (tx : String) (a : Nat), vk_R own k tx a s → vk_R own k tx a U) (h : ESF ad A s H) : ESF ad A U H := by
  obtain ⟨h1, h2, h3, h4, h5, h6, h7, ⟨t, h8, h9⟩, ⟨t2, h10, h11⟩, h12, h13, h14, h15, h16⟩ := h
  exact ⟨fun i hi => ⟨va_Z.moved hm (h1 i hi).1, va_O.moved hm (h1 i hi).2⟩, va_Ef.moved hm h2, va_Ef.moved hm h3, va_Ef.moved hm h4, va_Ef.moved hm h5, va_Ef.moved hm h6, va_Ef.moved hm h7, ⟨t, va_Z.moved hm h8, va_T.moved hm h9⟩, ⟨t2, va_Z.moved hm h10, va_T.moved hm h11⟩, h12, fun i hi z => ⟨va_O.moved hm (h13 i hi z).1, va_OF.moved hm (h13 i hi z).2.1, va_OF.moved hm (h13 i hi z).2.2.1, va_T.moved hm (h13 i hi z).2.2.2⟩, fun i hi => hr _ _ _ _ (h14 i hi), va_Z.moved hm h15, va_Zq.moved hm h16⟩
theorem ESF.kept {ad : Nat → Nat} {A : Nat → Prop} {U : State} {H H1 : Heap} (h : ESF ad A U H) (hq : ∀ a : Nat, a < H.size → ¬ A a → H1[a]? = H[a]?) : ESF ad A U H1 := by
  obtain ⟨h1, h2, h3, h4, h5, h6, h7, ⟨t, h8, h9⟩, ⟨t2, h10, h11⟩, h12, h13, h14, h15, h16⟩ := h
  exact ⟨fun i hi => ⟨(h1 i hi).1.kept hq, (h1 i hi).2.kept hq⟩, h2.kept hq, h3.kept hq, h4.kept hq, h5.kept hq, h6.kept hq, h7.kept hq, ⟨t, h8.kept hq, h9.kept hq⟩, ⟨t2, h10.kept hq, h11.kept hq⟩, h12, fun i hi z => ⟨(h13 i hi z).1.kept hq, (h13 i hi z).2.1.kept hq, (h13 i hi z).2.2.1.kept hq, (h13 i hi z).2.2.2.kept hq⟩, h14, h15.kept hq, h16.kept hq⟩
theorem ESF.narrow {ad : Nat → Nat} {A B : Nat → Prop} {U : State} {H : Heap} (h : ESF ad A U H) (hAB : ∀ q, B q → A q) : ESF ad B U H := by
  obtain ⟨h1, h2, h3, h4, h5, h6, h7, ⟨t, h8, h9⟩, ⟨t2, h10, h11⟩, h12, h13, h14, h15, h16⟩ := h
  exact ⟨fun i hi => ⟨(h1 i hi).1.narrow hAB, (h1 i hi).2.narrow hAB⟩, h2.narrow hAB, h3.narrow hAB, h4.narrow hAB, h5.narrow hAB, h6.narrow hAB, h7.narrow hAB, ⟨t, h8.narrow hAB, h9.narrow hAB⟩, ⟨t2, h10.narrow hAB, h11.narrow hAB⟩, h12, fun i hi z => ⟨(h13 i hi z).1.narrow hAB, (h13 i hi z).2.1.narrow hAB, (h13 i hi z).2.2.1.narrow hAB, (h13 i hi z).2.2.2.narrow hAB⟩, h14, h15.narrow hAB, h16.narrow hAB⟩
theorem SFc.gen {ad : Nat → Nat} {b L : Nat} {xs : Nat → Int32} {A : Nat → Prop} {s U : State} {H : Heap} (hm : s.vm.Alike U.vm) (hr : ∀ (own : String) (k : Nat) (tx : String) (a : Nat), vk_R own k tx a s → vk_R own k tx a U) (hse : ∀ y ∈ sbPriv, (∀ a : Array Value, (Cond.selects RJ4 y y).before a s = true) → ∀ a : Array Value, (Cond.selects RJ4 y y).before a U = true) (h : SFc ad b L xs A s H) : SFc ad b L xs A U H :=
  ⟨ESF.gen hm hr h.1, va_AO.moved hm h.2.1, fun y hy => hse y hy (h.2.2.1 y hy), h.2.2.2.1.moved hm, va_X.moved hm h.2.2.2.2.1, h.2.2.2.2.2⟩
theorem kok (D : va_G) (T : Nat → ClassId) (ad : Nat → Nat) (b L : Nat) (xs : Nat → Int32) : KOK (D, (T, ad), SFc ad b L xs) :=
  ⟨fun A s U H hW h => SFc.gen hW.alike (fun _ _ _ _ z => vk_R.warm hW z) (fun y _ z a => tb_one rfl hW (z a)) h,
   fun A U H H1 hq h => by
    obtain ⟨h1, h2, h3, h4, h5, h6, h7⟩ := h
    have e := hq b h6 h7
    have h8 : b < H1.size := by
      obtain ⟨scr, hc, -⟩ := h5
      rw [← e] at hc
      exact (Array.getElem?_eq_some_iff.mp hc).1
    exact ⟨h1.kept hq, h2, h3, h4.kept hq, h5.kept e, h8, h7⟩,
   fun A B U H hAB h => ⟨h.1.narrow hAB, h.2.1, h.2.2.1, h.2.2.2.1.narrow hAB, h.2.2.2.2.1, h.2.2.2.2.2.1, fun z => h.2.2.2.2.2.2 (hAB b z)⟩,
   fun A s U H hv h => SFc.gen (by rw [hv]; exact Vm.Alike.refl _) (fun _ _ _ _ z => vk_R.same hv.symm z) (fun y _ z a => tb_same rfl hv z) h⟩
theorem k_EH (D : va_G) (T : Nat → ClassId) (ad : Nat → Nat) (b L : Nat) (xs : Nat → Int32) : EH (D, (T, ad), SFc ad b L xs) := ⟨fun _ _ _ h => h.1, fun _ _ _ h => h.2.2.1⟩
theorem k_DGH (D : va_G) (T : Nat → ClassId) (ad : Nat → Nat) (b L : Nat) (xs : Nat → Int32) : DGH (D, (T, ad), SFc ad b L xs) := fun _ _ _ h => h.2.2.2.1
theorem k_AOH (D : va_G) (T : Nat → ClassId) (ad : Nat → Nat) (b L : Nat) (xs : Nat → Int32) : AOH (D, (T, ad), SFc ad b L xs) := fun _ _ _ h => h.2.1
theorem k_SXH (D : va_G) (T : Nat → ClassId) (ad : Nat → Nat) (b L : Nat) (xs : Nat → Int32) (hL : L ≤ 260) : SXH (D, (T, ad), SFc ad b L xs) b L xs := ⟨hL, fun _ _ _ h => ⟨h.2.2.2.2.1, h.2.2.2.2.2⟩⟩
set_option maxHeartbeats 4000000 in
theorem ex_cls {args : Array Value} {s : State} (hts : ∀ w ∈ lw_tbl, w.before args s = true) : ∃ D : va_G, ∀ (c : Nat) (q : vw_C), vwCl[c]? = some q → u_Kn s q.1 q.2.1 q.2.2 (D.1 c) (D.2 c) := by
  obtain ⟨c0, i0, h0⟩ := u_known (ws := wsJ00) (C := RJ0) (T := TJ0) (N := 4) (n := 4) (fun w hw => hts w (inJ0 w hw)) (fun _ h => h) (hts _ tm_1069)
  obtain ⟨c1, i1, h1⟩ := u_known (ws := wsJ40) (C := RJ4) (T := TJ4) (N := 4) (n := 4) (fun w hw => hts w (inJ4 w hw)) (fun _ h => h) (hts _ tm_885)
  obtain ⟨c2, i2, h2⟩ := u_known (ws := wsX10) (C := RX1) (T := TX1) (N := 2) (n := 2) (fun w hw => hts w (inX1 w hw)) (fun _ h => h) (hts _ tm_71)
  obtain ⟨c3, i3, h3⟩ := u_known (ws := wsX20) (C := RX2) (T := TX2) (N := 16) (n := 16) (fun w hw => hts w (inX2 w hw)) (fun _ h => h) (hts _ tm_148)
  obtain ⟨c4, i4, h4⟩ := u_known (ws := wsX30) (C := RX3) (T := TX3) (N := 3) (n := 3) (fun w hw => hts w (inX3 w hw)) (fun _ h => h) (hts _ tm_269)
  obtain ⟨c5, i5, h5⟩ := u_known (ws := wsX40) (C := RX4) (T := TX4) (N := 12) (n := 12) (fun w hw => hts w (inX4 w hw)) (fun _ h => h) (hts _ tm_221)
  obtain ⟨c6, i6, h6⟩ := u_known (ws := wsX50) (C := RX5) (T := TX5) (N := 8) (n := 8) (fun w hw => hts w (inX5 w hw)) (fun _ h => h) (hts _ tm_90)
  obtain ⟨c7, i7, h7⟩ := u_known (ws := wsX60) (C := RX6) (T := TX6) (N := 2) (n := 2) (fun w hw => hts w (inX6 w hw)) (fun _ h => h) (hts _ tm_96)
  obtain ⟨c8, i8, h8⟩ := u_known (ws := wsX80) (C := RX8) (T := TX8) (N := 9) (n := 9) (fun w hw => hts w (inX8 w hw)) (fun _ h => h) (hts _ tm_63)
  refine ⟨(fun k => if k = 0 then c0 else if k = 1 then c1 else if k = 2 then c2 else if k = 3 then c3 else if k = 4 then c4 else if k = 5 then c5 else if k = 6 then c6 else if k = 7 then c7 else c8, fun k => if k = 0 then i0 else if k = 1 then i1 else if k = 2 then i2 else if k = 3 then i3 else if k = 4 then i4 else if k = 5 then i5 else if k = 6 then i6 else if k = 7 then i7 else i8), ?_⟩
  intro k q hq
  match k, hq with
  | 0, hq => cases hq; exact h0
  | 1, hq => cases hq; exact h1
  | 2, hq => cases hq; exact h2
  | 3, hq => cases hq; exact h3
  | 4, hq => cases hq; exact h4
  | 5, hq => cases hq; exact h5
  | 6, hq => cases hq; exact h6
  | 7, hq => cases hq; exact h7
  | 8, hq => cases hq; exact h8
  | k + 9, hq => simp [vwCl] at hq
theorem ex_arr {args : Array Value} {s : State} (hts : ∀ w ∈ lw_tbl, w.before args s = true) : ∃ T : Nat → ClassId, ∀ (k : Nat) (q : ClassId × FieldType), [(T 0, FieldType.int), (T 1, .long), (T 2, .byte), (T 3, .object "MemoryCourt$Court")][k]? = some q → ArrOfT s q.1 q.2 ∧ va_RA s q.1 q.2 := by
  obtain ⟨ci, ki, pi, i1, i2, i3⟩ := Cond.arrayClass_spec (hts (.arrayClass .int) tm_109)
  obtain ⟨cj, kj, pj, j1, j2, j3⟩ := Cond.arrayClass_spec (hts (.arrayClass .long) tm_219)
  obtain ⟨cb, kb, pb, b1, b2, b3⟩ := Cond.arrayClass_spec (hts (.arrayClass .byte) tm_88)
  obtain ⟨po, co, ko, o1, o2, o3, o4, o5⟩ := Cond.arrayOver_spec (hts (.arrayOver (.object "MemoryCourt$Court")) tm_275)
  refine ⟨fun k => if k = 0 then ci else if k = 1 then cj else if k = 2 then cb else co, ?_⟩
  intro k q hq
  match k, hq with
  | 0, hq => cases hq; exact ⟨fun n z => ⟨fun k h => (by cases h), ki, i2, pi, i3⟩, i1⟩
  | 1, hq => cases hq; exact ⟨fun n z => ⟨fun k h => (by cases h), kj, j2, pj, j3⟩, j1⟩
  | 2, hq => cases hq; exact ⟨fun n z => ⟨fun k h => (by cases h), kb, b2, pb, b3⟩, b1⟩
  | 3, hq => cases hq; exact ⟨fun n z => ⟨fun k h => (by cases h), ko, o3, po, o4⟩, ⟨ko, po, o3, o4, o1, o5⟩⟩
  | k + 4, hq => simp at hq
