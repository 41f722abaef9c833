/-! the start: what the statics hold, all the law long -/
def CCP (U : State) : Prop := ∀ i j : Nat, 1 ≤ i → i ≤ 4 → 1 ≤ j → j ≤ 4 → i ≠ j → va_Nc (xName i) (xName j) U
def SFc (ad : Nat → Nat) (A : Nat → Prop) (U : State) (H : Heap) : Prop := XSF A U H ∧ ESF ad A U H ∧ va_AO "MemoryCourt$Court" U ∧ CCP U
theorem XSF.gen {A : Nat → Prop} {s U : State} {H : Heap} (hm : s.vm.Alike U.vm) (hr : ∀ (own : String) (k : Nat) (tx : String) (a : Nat), vk_R own k tx a s → vk_R own k tx a U) (h : XSF A s H) : XSF A U H :=
  ⟨vx_Zq.moved hm h.1, vx_Zq.moved hm h.2.1, fun q hq => by obtain ⟨sa, h9⟩ := h.2.2 q hq; exact ⟨sa, hr _ _ _ _ h9⟩⟩
theorem XSF.kept {A : Nat → Prop} {U : State} {H H1 : Heap} (h : XSF A U H) (hq : ∀ a : Nat, a < H.size → ¬ A a → H1[a]? = H[a]?) : XSF A U H1 := ⟨h.1.kept hq, h.2.1.kept hq, h.2.2⟩
theorem XSF.narrow {A B : Nat → Prop} {U : State} {H : Heap} (h : XSF A U H) (hAB : ∀ q, B q → A q) : XSF B U H := ⟨h.1.narrow hAB, h.2.1.narrow hAB, h.2.2⟩
theorem ESF.gen {ad : Nat → Nat} {A : Nat → Prop} {s U : State} {H : Heap} (hm : s.vm.Alike U.vm) (hr : ∀ (own : String) (k : Nat) (tx : String) (a : Nat), vk_R own k tx a s → vk_R own k tx a U) (h : ESF ad A s H) : ESF ad A U H := by
  obtain ⟨h1, h2, h3, h4, h5, h6, h7, ⟨t, h8, h9⟩, ⟨t2, h10, h11⟩, h12, h13, h14, h15, h16⟩ := h
  exact ⟨fun i hi => ⟨va_Z.moved hm (h1 i hi).1, va_O.moved hm (h1 i hi).2⟩, va_Ef.moved hm h2, va_Ef.moved hm h3, va_Ef.moved hm h4, va_Ef.moved hm h5, va_Ef.moved hm h6, va_Ef.moved hm h7, ⟨t, va_Z.moved hm h8, va_T.moved hm h9⟩, ⟨t2, va_Z.moved hm h10, va_T.moved hm h11⟩, h12, fun i hi => ⟨va_O.moved hm (h13 i hi).1, va_OF.moved hm (h13 i hi).2.1, va_OF.moved hm (h13 i hi).2.2.1, va_T.moved hm (h13 i hi).2.2.2⟩, hr _ _ _ _ h14, va_Z.moved hm h15, va_Zq.moved hm h16⟩
theorem ESF.kept {ad : Nat → Nat} {A : Nat → Prop} {U : State} {H H1 : Heap} (h : ESF ad A U H) (hq : ∀ a : Nat, a < H.size → ¬ A a → H1[a]? = H[a]?) : ESF ad A U H1 := by
  obtain ⟨h1, h2, h3, h4, h5, h6, h7, ⟨t, h8, h9⟩, ⟨t2, h10, h11⟩, h12, h13, h14, h15, h16⟩ := h
  exact ⟨fun i hi => ⟨(h1 i hi).1.kept hq, (h1 i hi).2.kept hq⟩, h2.kept hq, h3.kept hq, h4.kept hq, h5.kept hq, h6.kept hq, h7.kept hq, ⟨t, h8.kept hq, h9.kept hq⟩, ⟨t2, h10.kept hq, h11.kept hq⟩, h12, fun i hi => ⟨(h13 i hi).1.kept hq, (h13 i hi).2.1.kept hq, (h13 i hi).2.2.1.kept hq, (h13 i hi).2.2.2.kept hq⟩, h14, h15.kept hq, h16.kept hq⟩
theorem ESF.narrow {ad : Nat → Nat} {A B : Nat → Prop} {U : State} {H : Heap} (h : ESF ad A U H) (hAB : ∀ q, B q → A q) : ESF ad B U H := by
  obtain ⟨h1, h2, h3, h4, h5, h6, h7, ⟨t, h8, h9⟩, ⟨t2, h10, h11⟩, h12, h13, h14, h15, h16⟩ := h
  exact ⟨fun i hi => ⟨(h1 i hi).1.narrow hAB, (h1 i hi).2.narrow hAB⟩, h2.narrow hAB, h3.narrow hAB, h4.narrow hAB, h5.narrow hAB, h6.narrow hAB, h7.narrow hAB, ⟨t, h8.narrow hAB, h9.narrow hAB⟩, ⟨t2, h10.narrow hAB, h11.narrow hAB⟩, h12, fun i hi => ⟨(h13 i hi).1.narrow hAB, (h13 i hi).2.1.narrow hAB, (h13 i hi).2.2.1.narrow hAB, (h13 i hi).2.2.2.narrow hAB⟩, h14, h15.narrow hAB, h16.narrow hAB⟩
theorem SFc.gen {ad : Nat → Nat} {A : Nat → Prop} {s U : State} {H : Heap} (hm : s.vm.Alike U.vm) (hr : ∀ (own : String) (k : Nat) (tx : String) (a : Nat), vk_R own k tx a s → vk_R own k tx a U) (h : SFc ad A s H) : SFc ad A U H :=
  ⟨XSF.gen hm hr h.1, ESF.gen hm hr h.2.1, va_AO.moved hm h.2.2.1, fun i j h1 h2 h3 h4 h5 => va_Nc.moved hm (h.2.2.2 i j h1 h2 h3 h4 h5)⟩
theorem kok (D : va_G) (T : Nat → ClassId) (ad : Nat → Nat) : KOK (D, (T, ad), SFc ad) :=
  ⟨fun A s U H hW h => SFc.gen hW.alike (fun _ _ _ _ z => vk_R.warm hW z) h,
   fun A U H H1 hq h => ⟨h.1.kept hq, h.2.1.kept hq, h.2.2⟩,
   fun A B U H hAB h => ⟨h.1.narrow hAB, h.2.1.narrow hAB, h.2.2⟩,
   fun A s U H hv h => SFc.gen (by rw [hv]; exact Vm.Alike.refl _) (fun _ _ _ _ z => vk_R.same hv.symm z) h⟩
theorem k_EH (D : va_G) (T : Nat → ClassId) (ad : Nat → Nat) : EH (D, (T, ad), SFc ad) := fun _ _ _ h => h.2.1
theorem k_XH {l : Launch} (hf : l.stackTraces = false) (D : va_G) (T : Nat → ClassId) (ad : Nat → Nat) : XH l (D, (T, ad), SFc ad) := ⟨hf, fun _ _ _ h => h.1⟩
theorem k_CCH (D : va_G) (T : Nat → ClassId) (ad : Nat → Nat) : CCH (D, (T, ad), SFc ad) := fun _ _ _ h => h.2.2.2
theorem k_AOH (D : va_G) (T : Nat → ClassId) (ad : Nat → Nat) : AOH (D, (T, ad), SFc ad) := fun _ _ _ h => h.2.2.1
