/-! what the accounts keep: pages and those taken back within what a loan got; fines told once; a claim and its loan -/
theorem su_one {f g : Nat → Int32} {p : Nat} : ∀ {K : Nat}, p < K → (∀ a, a < K → a ≠ p → g a = f a) → g p = f p + 1 → su g K = su f K + 1
  | 0, h, _, _ => absurd h (Nat.not_lt_zero p)
  | K + 1, h, h1, h2 => by
    show su g K + g K = su f K + f K + 1
    by_cases e : p = K
    · subst e
      rw [h2, su_cong (fun i hi => h1 i (by omega) (by omega)), Int32.add_assoc]
    · rw [su_one (K := K) (by omega) (fun a ha => h1 a (by omega)) h2, h1 K (by omega) (fun z => e z.symm), Int32.add_assoc, Int32.add_comm 1, ← Int32.add_assoc]
def Inv (P NP CC LC FC : Nat) (m : Nat → Int32) : Prop :=
  LC ≤ 80 ∧ (∀ l, LC ≤ l → l < 80 → pc m P (nI l) = 0) ∧
  (∀ l, l < LC → ∃ got tk, m (58 + 6 * l + 5) = nI got ∧ m (58 + 6 * l + 4) = nI tk ∧ pc m P (nI l) + tk ≤ got ∧ got ≤ 64) ∧
  (m 4 = nI FC ∧ su (fun p => m (10 + 6 * p + 4)) NP = nI FC) ∧
  (∀ q, q < CC → (m (602 + 7 * q + 3) = 1 ∧ ∃ l, l < LC ∧ m (602 + 7 * q + 5) = nI l ∧ m (58 + 6 * l + 3) = nI q) ∨ (m (602 + 7 * q + 3) ≠ 1 ∧ m (602 + 7 * q + 5) = -1)) ∧
  (∀ p, p < 8 → ∃ s, s ≤ 99 ∧ m (10 + 6 * p + 2) = nI s)
section INV
variable {P NP CC T LC FC : Nat} {m m' : Nat → Int32}
theorem Inv.sm (h : Inv P NP CC LC FC m) (h64 : P ≤ 64) (h60 : CC ≤ 60) (hNP : NP ≤ 8) (hm : ∀ j, (j = 4 ∨ (10 ≤ j ∧ j < 1022)) → m' j = m j) : Inv P NP CC LC FC m' := by
  obtain ⟨h0, h1, h2, h3, h4, h5⟩ := h
  have pcs : ∀ v, pc m' P v = pc m P v := fun v => pc_sm (fun i a b => hm i (by omega)) h64 v
  refine ⟨h0, fun l a b => (pcs _).trans (h1 l a b), fun l hl => ?_, ⟨(hm 4 (by omega)).trans h3.1, ?_⟩, fun q hq => ?_, fun p hp8 => ?_⟩
  · obtain ⟨g, t, a, b, c, d⟩ := h2 l hl
    exact ⟨g, t, (hm _ (by omega)).trans a, (hm _ (by omega)).trans b, by rw [pcs]; exact c, d⟩
  · rw [← h3.2]
    exact su_cong fun p hp => hm _ (by omega)
  · rcases h4 q hq with ⟨a, l, b, c, d⟩ | ⟨a, b⟩
    · exact Or.inl ⟨(hm _ (by omega)).trans a, l, b, (hm _ (by omega)).trans c, (hm _ (by omega)).trans d⟩
    · exact Or.inr ⟨by rw [hm _ (by omega)]; exact a, (hm _ (by omega)).trans b⟩
  · obtain ⟨s, hs, e⟩ := h5 p hp8
    exact ⟨s, hs, (hm _ (by omega)).trans e⟩
theorem inv_proc (h : Inv P NP CC LC FC m) (h64 : P ≤ 64) (h60 : CC ≤ 60) (hNP : NP ≤ 8) (hp : Pst m m') : Inv P NP CC LC FC m' := by
  obtain ⟨h0, h1, h2, h3, h4, h5⟩ := h
  have pcs : ∀ v, pc m' P v = pc m P v := fun v => pc_sm (fun i a b => hp.1 i (by omega)) h64 v
  refine ⟨h0, fun l a b => (pcs _).trans (h1 l a b), fun l hl => ?_, ⟨(hp.1 4 (by omega)).trans h3.1, ?_⟩, fun q hq => ?_, fun p hp8 => ?_⟩
  · obtain ⟨g, t, a, b, c, d⟩ := h2 l hl
    exact ⟨g, t, (hp.1 _ (by omega)).trans a, (hp.1 _ (by omega)).trans b, by rw [pcs]; exact c, d⟩
  · rw [← h3.2]
    exact su_cong fun p hp9 => (hp.2 p (by omega)).2.1
  · rcases h4 q hq with ⟨a, l, b, c, d⟩ | ⟨a, b⟩
    · exact Or.inl ⟨(hp.1 _ (by omega)).trans a, l, b, (hp.1 _ (by omega)).trans c, (hp.1 _ (by omega)).trans d⟩
    · exact Or.inr ⟨by rw [hp.1 _ (by omega)]; exact a, (hp.1 _ (by omega)).trans b⟩
  · obtain ⟨s, hs, e⟩ := h5 p hp8
    rcases (hp.2 p hp8).2.2 with k | ⟨k1, k2⟩
    · exact ⟨s, hs, k.trans e⟩
    · cases s with
      | zero => exact absurd (by rw [e]; exact nI_zle rfl) k1
      | succ s => exact ⟨s, by omega, by rw [k2, e, pk_m1]⟩
theorem inv_fine (h : Inv P NP CC LC FC m) (h64 : P ≤ 64) (h60 : CC ≤ 60) (hNP : NP ≤ 8) {p l w b e a nb nr : Nat} (hp : p < NP) : Inv P NP CC LC (FC + 1) (finedM m FC p l w b e a nb nr) := by
  obtain ⟨h0, h1, h2, h3, h4, h5⟩ := h
  have fo : ∀ j, (58 ≤ j ∧ j < 1022) → finedM m FC p l w b e a nb nr j = m j := fun j hj => finedM_o (by omega) (by omega) (by omega) (by omega) (by omega)
  have f4 : finedM m FC p l w b e a nb nr 4 = nI (FC + 1) := by
    unfold finedM fineM
    rw [upd_s]
  have fp : finedM m FC p l w b e a nb nr (10 + 6 * p + 4) = m (10 + 6 * p + 4) + 1 := by
    unfold finedM fineM
    rw [upd_n (by omega), row8_o (by omega), upd_s]
  have pcs : ∀ v, pc (finedM m FC p l w b e a nb nr) P v = pc m P v := fun v => pc_sm (fun i a b => fo i (by omega)) h64 v
  refine ⟨h0, fun l a b => (pcs _).trans (h1 l a b), fun l hl => ?_, ⟨f4, ?_⟩, fun q hq => ?_, fun p9 hp8 => ?_⟩
  · obtain ⟨g, t, a, b, c, d⟩ := h2 l hl
    exact ⟨g, t, (fo _ (by omega)).trans a, (fo _ (by omega)).trans b, by rw [pcs]; exact c, d⟩
  · rw [su_one (f := fun p => m (10 + 6 * p + 4)) hp (fun a ha hne => finedM_o (by omega) (by omega) (by omega) (by omega) (by omega)) fp, h3.2, nI_1]
  · rcases h4 q hq with ⟨a, l, b, c, d⟩ | ⟨a, b⟩
    · exact Or.inl ⟨(fo _ (by omega)).trans a, l, b, (fo _ (by omega)).trans c, (fo _ (by omega)).trans d⟩
    · exact Or.inr ⟨by rw [fo _ (by omega)]; exact a, (fo _ (by omega)).trans b⟩
  · obtain ⟨s, hs, e⟩ := h5 p9 hp8
    exact ⟨s, hs, (finedM_o (by omega) (by omega) (by omega) (by omega) (by omega)).trans e⟩
theorem inv_rel (h : Inv P NP CC LC FC m) (h64 : P ≤ 64) (h60 : CC ≤ 60) (hNP : NP ≤ 8) {l t : Nat} (hl : l < LC) (ht : t ≤ pc m P (nI l)) : Inv P NP CC LC FC (relM m P l t) := by
  obtain ⟨h0, h1, h2, h3, h4, h5⟩ := h
  have ro : ∀ j, (j < 538 ∨ 602 ≤ j) → relM m P l t j = m j := fun j hj => relM_o hj
  refine ⟨h0, fun a b c => ?_, fun a ha => ?_, ⟨(ro _ (by omega)).trans h3.1, ?_⟩, fun q hq => ?_, fun p9 hp8 => ?_⟩
  · rw [pc_rel_o h64 (by omega) ht (by omega) (by omega)]
    exact h1 a b c
  · obtain ⟨g, k, a1, b, c, d⟩ := h2 a ha
    refine ⟨g, k, (ro _ (by omega)).trans a1, (ro _ (by omega)).trans b, ?_, d⟩
    by_cases e : a = l
    · subst e
      rw [pc_rel_l h64 (by omega) ht]
      omega
    · rw [pc_rel_o h64 (by omega) ht (by omega) e]
      exact c
  · rw [← h3.2]
    exact su_cong fun p hp => ro _ (by omega)
  · rcases h4 q hq with ⟨a, l, b, c, d⟩ | ⟨a, b⟩
    · exact Or.inl ⟨(ro _ (by omega)).trans a, l, b, (ro _ (by omega)).trans c, (ro _ (by omega)).trans d⟩
    · exact Or.inr ⟨by rw [ro _ (by omega)]; exact a, (ro _ (by omega)).trans b⟩
  · obtain ⟨s, hs, e⟩ := h5 p9 hp8
    exact ⟨s, hs, (ro _ (by omega)).trans e⟩
theorem inv_take (h : Inv P NP CC LC FC m) (h64 : P ≤ 64) (h60 : CC ≤ 60) (hNP : NP ≤ 8) {l t : Nat} (hl : l < LC) (ht : t ≤ pc m P (nI l)) : Inv P NP CC LC FC (takM m P l t) := by
  obtain ⟨h0, h1, h2, h3, h4, h5⟩ := h
  have ro : ∀ j, (j < 538 ∨ 602 ≤ j) → j ≠ 5 → j ≠ 58 + 6 * l + 4 → takM m P l t j = m j := fun j hj j5 j4 => by
    unfold takM
    rw [upd_n j5, upd_n j4, relM_o hj]
  have rt : takM m P l t (58 + 6 * l + 4) = m (58 + 6 * l + 4) + nI t := by
    unfold takM
    rw [upd_n (by omega), upd_s, relM_o (by omega)]
  have pcs : ∀ v, pc (takM m P l t) P v = pc (relM m P l t) P v := fun v => pc_sm (fun i a b => by
    unfold takM
    rw [upd_n (by omega), upd_n (by omega)]) h64 v
  refine ⟨h0, fun a b c => ?_, fun a ha => ?_, ⟨(ro _ (by omega) (by omega) (by omega)).trans h3.1, ?_⟩, fun q hq => ?_, fun p9 hp8 => ?_⟩
  · rw [pcs, pc_rel_o h64 (by omega) ht (by omega) (by omega)]
    exact h1 a b c
  · obtain ⟨g, k, a1, b, c, d⟩ := h2 a ha
    by_cases e : a = l
    · subst e
      refine ⟨g, k + t, (ro _ (by omega) (by omega) (by omega)).trans a1, by rw [rt, b, nI_add], ?_, d⟩
      rw [pcs, pc_rel_l h64 (by omega) ht]
      omega
    · refine ⟨g, k, (ro _ (by omega) (by omega) (by omega)).trans a1, (ro _ (by omega) (by omega) (by omega)).trans b, ?_, d⟩
      rw [pcs, pc_rel_o h64 (by omega) ht (by omega) e]
      exact c
  · rw [← h3.2]
    exact su_cong fun p hp => ro _ (by omega) (by omega) (by omega)
  · rcases h4 q hq with ⟨a, l9, b, c, d⟩ | ⟨a, b⟩
    · exact Or.inl ⟨(ro _ (by omega) (by omega) (by omega)).trans a, l9, b, (ro _ (by omega) (by omega) (by omega)).trans c, (ro _ (by omega) (by omega) (by omega)).trans d⟩
    · exact Or.inr ⟨by rw [ro _ (by omega) (by omega) (by omega)]; exact a, (ro _ (by omega) (by omega) (by omega)).trans b⟩
  · obtain ⟨s, hs, e⟩ := h5 p9 hp8
    exact ⟨s, hs, (ro _ (by omega) (by omega) (by omega)).trans e⟩
theorem lendM_new {l g : Nat} {p d t cl : Int32} (hl : l < 80) : lendM m P l p g d t cl (58 + 6 * l + 2) = t ∧ lendM m P l p g d t cl (58 + 6 * l + 3) = cl ∧ lendM m P l p g d t cl (58 + 6 * l + 4) = 0 ∧ lendM m P l p g d t cl (58 + 6 * l + 5) = nI g := by
  unfold lendM
  rw [ovl_out (by omega), ovl_out (by omega), ovl_out (by omega), ovl_out (by omega)]
  unfold lendM1
  refine ⟨?_, ?_, ?_, ?_⟩
  · rw [upd_n (by omega), upd_n (by omega), upd_n (by omega), upd_n (by omega), upd_s]
  · rw [upd_n (by omega), upd_n (by omega), upd_n (by omega), upd_s]
  · rw [upd_n (by omega), upd_n (by omega), upd_s]
  · rw [upd_n (by omega), upd_s]
theorem metM_q {q p : Nat} {v : Int32} (hp : p < 8) : metM m q p v (602 + 7 * q + 3) = 1 ∧ metM m q p v (602 + 7 * q + 5) = v := by
  unfold metM
  exact ⟨by rw [upd_n (by omega), upd_n (by omega), upd_n (by omega), upd_s], by rw [upd_n (by omega), upd_n (by omega), upd_s]⟩
theorem nI_ne_m1 {k : Nat} (h : k < 80) : nI k ≠ -1 := nI_m1 k (by omega)
theorem meet_o {q p g j : Nat} {d t : Int32} (h80 : LC < 80) (hp : p < 8) (h1 : j ≠ 602 + 7 * q + 3) (h2 : j ≠ 602 + 7 * q + 5) (h3 : j ≠ 8) (h4 : j ≠ 10 + 6 * p + 3) (h5 : (j < 538 ∧ (j < 58 + 6 * LC ∨ 58 + 6 * LC + 6 ≤ j)) ∨ 602 ≤ j) (h6 : j ≠ 6) : lendM (metM m q p (nI LC)) P LC (nI p) g d t (nI q) j = m j := by
  rw [lendM_o h80 h5 h6, metM_o h1 h2 h3 h4]
theorem inv_meet (h : Inv P NP CC LC FC m) (h64 : P ≤ 64) (h60 : CC ≤ 60) (hNP : NP ≤ 8) {q p g : Nat} {d t : Int32} (hq : q < CC) (h80 : LC < 80) (hp : p < 8) (hg : g ≤ 64) (hgf : g ≤ pc m P (-1)) : Inv P NP CC (LC + 1) FC (lendM (metM m q p (nI LC)) P LC (nI p) g d t (nI q)) := by
  obtain ⟨h0, h1, h2, h3, h4, h5⟩ := h
  have q60 : q < 60 := by omega
  have pm : ∀ v, pc (metM m q p (nI LC)) P v = pc m P v := fun v => pc_sm (fun i a b => metM_o (by omega) (by omega) (by omega) (by omega)) h64 v
  have pl := fun x => pc_lds (m := metM m q p (nI LC)) (p := nI p) (d := d) (t := t) (cl := nI q) h64 h80 (g := g) (by rw [pm]; exact hgf) x
  have n1 : ∀ k, k < 80 → k ≠ LC → pc (lendM (metM m q p (nI LC)) P LC (nI p) g d t (nI q)) P (nI k) = pc m P (nI k) := fun k hk hne => by
    have h9 := pl (nI k)
    rw [if_neg (nI_ne_m1 hk), if_neg (fun z => hne (nI_inj (by omega) (by omega) z)), pm] at h9
    omega
  have n2 : pc (lendM (metM m q p (nI LC)) P LC (nI p) g d t (nI q)) P (nI LC) = g := by
    have h9 := pl (nI LC)
    rw [if_neg (nI_ne_m1 h80), if_pos rfl, pm, h1 LC (Nat.le_refl _) h80] at h9
    omega
  obtain ⟨-, w1, w2, w3⟩ := lendM_new (m := metM m q p (nI LC)) (P := P) (l := LC) (g := g) (p := nI p) (d := d) (t := t) (cl := nI q) h80
  have mo : ∀ j, j ≠ 602 + 7 * q + 3 → j ≠ 602 + 7 * q + 5 → j ≠ 8 → j ≠ 10 + 6 * p + 3 → ((j < 538 ∧ (j < 58 + 6 * LC ∨ 58 + 6 * LC + 6 ≤ j)) ∨ 602 ≤ j) → j ≠ 6 → lendM (metM m q p (nI LC)) P LC (nI p) g d t (nI q) j = m j := fun j a1 a2 a3 a4 a5 a6 => meet_o h80 hp a1 a2 a3 a4 a5 a6
  have mq := metM_q (m := m) (q := q) (v := nI LC) hp
  refine ⟨by omega, fun l a b => ?_, fun l hl => ?_, ⟨?_, ?_⟩, fun a ha => ?_, fun p9 hp8 => ?_⟩
  · rw [n1 l b (by omega)]
    exact h1 l (by omega) b
  · by_cases e : l = LC
    · subst e
      exact ⟨g, 0, w3, w2.trans nI_0.symm, by rw [n2]; omega, hg⟩
    · obtain ⟨g9, k, a1, b, c, d9⟩ := h2 l (by omega)
      exact ⟨g9, k, (mo _ (by omega) (by omega) (by omega) (by omega) (by omega) (by omega)).trans a1, (mo _ (by omega) (by omega) (by omega) (by omega) (by omega) (by omega)).trans b, by rw [n1 l (by omega) e]; exact c, d9⟩
  · exact (mo 4 (by omega) (by omega) (by omega) (by omega) (by omega) (by omega)).trans h3.1
  · rw [← h3.2]
    exact su_cong fun a ha => mo _ (by omega) (by omega) (by omega) (by omega) (by omega) (by omega)
  · by_cases e : a = q
    · subst e
      exact Or.inl ⟨by rw [lendM_o h80 (by omega) (by omega)]; exact mq.1, LC, by omega, by rw [lendM_o h80 (by omega) (by omega)]; exact mq.2, w1⟩
    · rcases h4 a ha with ⟨a1, l9, b, c, d9⟩ | ⟨a1, b⟩
      · exact Or.inl ⟨(mo _ (by omega) (by omega) (by omega) (by omega) (by omega) (by omega)).trans a1, l9, by omega, (mo _ (by omega) (by omega) (by omega) (by omega) (by omega) (by omega)).trans c, (mo _ (by omega) (by omega) (by omega) (by omega) (by omega) (by omega)).trans d9⟩
      · exact Or.inr ⟨by rw [mo _ (by omega) (by omega) (by omega) (by omega) (by omega) (by omega)]; exact a1, (mo _ (by omega) (by omega) (by omega) (by omega) (by omega) (by omega)).trans b⟩
  · obtain ⟨s, hs, e⟩ := h5 p9 hp8
    exact ⟨s, hs, (mo _ (by omega) (by omega) (by omega) (by omega) (by omega) (by omega)).trans e⟩
theorem inv_put (h : Inv P NP CC LC FC m) (h64 : P ≤ 64) (h60 : CC ≤ 60) (hNP : NP ≤ 8) {q : Nat} (hq : q < CC) (hw : wt m q = true) (hm : ∀ j, j ≠ 602 + 7 * q + 3 → j ≠ 602 + 7 * q + 4 → j ≠ 9 → m' j = m j) (hv : m' (602 + 7 * q + 3) = 0 ∨ m' (602 + 7 * q + 3) = 2) : Inv P NP CC LC FC m' := by
  obtain ⟨h0, h1, h2, h3, h4, h5⟩ := h
  have pcs : ∀ v, pc m' P v = pc m P v := fun v => pc_sm (fun i a b => hm i (by omega) (by omega) (by omega)) h64 v
  refine ⟨h0, fun l a b => (pcs _).trans (h1 l a b), fun l hl => ?_, ⟨(hm 4 (by omega) (by omega) (by omega)).trans h3.1, ?_⟩, fun a ha => ?_, fun p hp8 => ?_⟩
  · obtain ⟨g, t, a, b, c, d⟩ := h2 l hl
    exact ⟨g, t, (hm _ (by omega) (by omega) (by omega)).trans a, (hm _ (by omega) (by omega) (by omega)).trans b, by rw [pcs]; exact c, d⟩
  · rw [← h3.2]
    exact su_cong fun p hp => hm _ (by omega) (by omega) (by omega)
  · by_cases e : a = q
    · subst e
      have h0q := wt_iff.mp hw
      rcases h4 a ha with ⟨a1, _⟩ | ⟨a1, b⟩
      · rw [h0q] at a1
        exact absurd a1 (by decide)
      · refine Or.inr ⟨?_, (hm _ (by omega) (by omega) (by omega)).trans b⟩
        rcases hv with z | z <;> rw [z] <;> decide
    · rcases h4 a ha with ⟨a1, l, b, c, d⟩ | ⟨a1, b⟩
      · exact Or.inl ⟨(hm _ (by omega) (by omega) (by omega)).trans a1, l, b, (hm _ (by omega) (by omega) (by omega)).trans c, (hm _ (by omega) (by omega) (by omega)).trans d⟩
      · exact Or.inr ⟨by rw [hm _ (by omega) (by omega) (by omega)]; exact a1, (hm _ (by omega) (by omega) (by omega)).trans b⟩
  · obtain ⟨s, hs, e⟩ := h5 p hp8
    exact ⟨s, hs, (hm _ (by omega) (by omega) (by omega)).trans e⟩
theorem inv_clo (h64 : P ≤ 64) (h60 : CC ≤ 60) (hNP : NP ≤ 8) : Clo P NP CC (fun _ LC FC m => Inv P NP CC LC FC m) :=
  ⟨fun _ _ _ _ _ h hm => h.sm h64 h60 hNP fun j hj => hm j (by omega) (by omega) (by omega), fun _ _ _ _ h => h.sm h64 h60 hNP fun j hj => upd_n (by omega), fun _ _ _ _ _ h hp => inv_proc h h64 h60 hNP hp, fun _ _ _ _ _ _ _ _ _ _ _ h _ hp _ => inv_fine h h64 h60 hNP hp, fun _ _ _ _ _ _ h hl _ _ ht => inv_take h h64 h60 hNP hl ht, fun _ _ _ _ _ _ _ _ h hq _ h80 _ _ _ hp8 _ hg hgf => inv_meet h h64 h60 hNP hq h80 hp8 hg hgf, fun _ _ _ _ _ _ h hq _ hw hm hv => inv_put h h64 h60 hNP hq hw hm hv⟩
/-! a claim that is met in a tick: its loan is made then, and stays made then -/
/-- claim q is met, by a loan made at t -/
def MtA (q t LC : Nat) (m : Nat → Int32) : Prop := m (602 + 7 * q + 3) = 1 ∧ ∃ l, l < LC ∧ l < 80 ∧ m (602 + 7 * q + 5) = nI l ∧ m (58 + 6 * l + 2) = nI t
theorem MtA.cells {q t : Nat} (h : MtA q t LC m) (h1 : m' (602 + 7 * q + 3) = m (602 + 7 * q + 3)) (h2 : m' (602 + 7 * q + 5) = m (602 + 7 * q + 5)) (h3 : ∀ l, l < LC → l < 80 → m' (58 + 6 * l + 2) = m (58 + 6 * l + 2)) {LC' : Nat} (hL : LC ≤ LC') : MtA q t LC' m' := by
  obtain ⟨g1, l, g2, g3, g4, g5⟩ := h
  exact ⟨h1.trans g1, l, by omega, g3, h2.trans g4, (h3 l g2 g3).trans g5⟩
theorem wt_ne {a b : Nat} (h : m (602 + 7 * a + 3) = 1) (hw : wt m b = true) : a ≠ b := fun e => by
  subst e
  rw [wt_iff.mp hw] at h
  exact absurd h (by decide)
theorem takM_o {l t j : Nat} (hj : j < 538 ∨ 602 ≤ j) (j5 : j ≠ 5) (j4 : j ≠ 58 + 6 * l + 4) : takM m P l t j = m j := by
  unfold takM
  rw [upd_n j5, upd_n j4, relM_o hj]
theorem mta_clo {q t : Nat} (hq : q < CC) (h60 : CC ≤ 60) : Clo P NP CC (fun _ LC _ m => MtA q t LC m) := by
  refine ⟨fun _ _ _ _ _ h hm => ?_, fun _ _ _ _ h => ?_, fun _ _ _ _ _ h hp => ?_, fun _ _ _ _ _ _ _ _ _ _ _ h _ _ hp8 => ?_, fun _ _ _ _ _ _ h _ _ _ _ => ?_, fun T LC FC m q9 p g t9 h hq9 _ h80 _ hw _ hp8 _ _ _ => ?_, fun _ _ _ _ _ q9 h _ _ hw hm _ => ?_⟩
  · exact h.cells (hm _ (by omega) (by omega) (by omega)) (hm _ (by omega) (by omega) (by omega)) (fun l _ _ => hm _ (by omega) (by omega) (by omega)) (Nat.le_refl _)
  · exact h.cells (upd_n (by omega)) (upd_n (by omega)) (fun l _ _ => upd_n (by omega)) (Nat.le_refl _)
  · exact h.cells (hp.1 _ (by omega)) (hp.1 _ (by omega)) (fun l _ _ => hp.1 _ (by omega)) (Nat.le_refl _)
  · exact h.cells (finedM_o (by omega) (by omega) (by omega) (by omega) (by omega)) (finedM_o (by omega) (by omega) (by omega) (by omega) (by omega)) (fun l _ _ => finedM_o (by omega) (by omega) (by omega) (by omega) (by omega)) (Nat.le_refl _)
  · exact h.cells (takM_o (by omega) (by omega) (by omega)) (takM_o (by omega) (by omega) (by omega)) (fun l _ _ => takM_o (by omega) (by omega) (by omega)) (Nat.le_refl _)
  · have hne := wt_ne h.1 hw
    exact h.cells (meet_o h80 hp8 (by omega) (by omega) (by omega) (by omega) (by omega) (by omega)) (meet_o h80 hp8 (by omega) (by omega) (by omega) (by omega) (by omega) (by omega)) (fun l hl _ => meet_o h80 hp8 (by omega) (by omega) (by omega) (by omega) (by omega) (by omega)) (by omega)
  · have hne := wt_ne h.1 hw
    exact h.cells (hm _ (by omega) (by omega) (by omega)) (hm _ (by omega) (by omega) (by omega)) (fun l _ _ => hm _ (by omega) (by omega) (by omega)) (Nat.le_refl _)
/-- within the time t: not met, or met now -/
def MtB (q t T LC : Nat) (m : Nat → Int32) : Prop := t < T ∨ (T = t ∧ (m (602 + 7 * q + 3) ≠ 1 ∨ MtA q t LC m))
theorem MtB.of {q t LC' : Nat} (h : MtB q t T LC m) (h1 : m' (602 + 7 * q + 3) = m (602 + 7 * q + 3)) (h2 : MtA q t LC m → MtA q t LC' m') : MtB q t T LC' m' := by
  rcases h with h | ⟨h, k | k⟩
  · exact Or.inl h
  · exact Or.inr ⟨h, Or.inl (by rw [h1]; exact k)⟩
  · exact Or.inr ⟨h, Or.inr (h2 k)⟩
theorem mtb_clo {q t : Nat} (hq : q < CC) (h60 : CC ≤ 60) : Clo P NP CC (fun T LC _ m => MtB q t T LC m) := by
  have A := mta_clo (P := P) (NP := NP) (t := t) hq h60
  refine ⟨fun T LC FC m m' h hm => ?_, fun T LC FC m h => ?_, fun T LC FC m m' h hp => ?_, fun T LC FC m p l w b a nb nr h hl hp hp8 => ?_, fun T LC FC m l t9 h hl h80 h64 ht => ?_, fun T LC FC m q9 p g t9 h hq9 h6 h80 h64 hw hp hp8 hpo hg hgf => ?_, fun T LC FC m m' q9 h hq9 h6 hw hm hv => ?_⟩
  · exact h.of (hm _ (by omega) (by omega) (by omega)) (fun k => A.1 T LC FC m m' k hm)
  · rcases h with h | ⟨h, -⟩
    · exact Or.inl (by omega)
    · exact Or.inl (by omega)
  · exact h.of (hp.1 _ (by omega)) (fun k => A.2.2.1 T LC FC m m' k hp)
  · exact h.of (finedM_o (by omega) (by omega) (by omega) (by omega) (by omega)) (fun k => A.2.2.2.1 T LC FC m p l w b a nb nr k hl hp hp8)
  · exact h.of (takM_o (by omega) (by omega) (by omega)) (fun k => A.2.2.2.2.1 T LC FC m l t9 k hl h80 h64 ht)
  · by_cases e : q = q9
    · subst e
      rcases h with h | ⟨h, -⟩
      · exact Or.inl h
      · refine Or.inr ⟨h, Or.inr ⟨?_, LC, by omega, h80, ?_, ?_⟩⟩
        · rw [lendM_o h80 (by omega) (by omega)]
          exact (metM_q hp8).1
        · rw [lendM_o h80 (by omega) (by omega)]
          exact (metM_q hp8).2
        · rw [(lendM_new h80).1, h]
    · exact h.of (meet_o h80 hp8 (by omega) (by omega) (by omega) (by omega) (by omega) (by omega)) (fun k => A.2.2.2.2.2.1 T LC FC m q9 p g t9 k hq9 h6 h80 h64 hw hp hp8 hpo hg hgf)
  · by_cases e : q = q9
    · subst e
      rcases h with h | ⟨h, -⟩
      · exact Or.inl h
      · refine Or.inr ⟨h, Or.inl ?_⟩
        rcases hv with z | z <;> rw [z] <;> decide
    · exact h.of (hm _ (by omega) (by omega) (by omega)) (fun k => A.2.2.2.2.2.2 T LC FC m m' q9 k hq9 h6 hw hm hv)
end INV
