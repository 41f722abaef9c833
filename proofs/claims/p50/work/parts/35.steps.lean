/-! the steps that keep class and row together -/
theorem nI_m2 (k : Nat) (h : k < 2 ^ 31) : nI k ≠ -2 := by
  intro e
  have := nI_pos h
  rw [e] at this
  exact this (by decide)
theorem nI_negadd {a b : Nat} (h : b ≤ a) : nI a + -nI b = nI (a - b) := by
  rw [← Int32.sub_eq_add_neg, pk_sub h]
theorem upd_sm {m : Nat → Int32} {k : Nat} {x : Int32} {a b : Nat} (h : k < a ∨ b ≤ k) : Sm a b m (upd m k x) := (Sm.rf a b m).up h
theorem upd_lo {m : Nat → Int32} {k : Nat} {x : Int32} (hk : 8 ≤ k) : ∀ j, j < 8 → j ≠ 2 → j ≠ 3 → upd m k x j = m j := fun j h1 _ _ => upd_n (by omega)
theorem sA_o {c : OS} {j i : Nat} {f : Nat → Int32} (h : i ≠ j) : (sA c j f).2.1 i = c.2.1 i := if_neg h
theorem sI_o {c : OS} {j i : Nat} {v : Int32} (h : i ≠ j) : (sI c j v).1 i = c.1 i := if_neg h
theorem sI_s {c : OS} {j : Nat} {v : Int32} : (sI c j v).1 j = v := if_pos rfl
def relC (c : OS) (l many : Nat) : OS := sI (sA (sA c 10 (frs (nI l) 64 many (c.2.1 10))) 12 (upd (c.2.1 12) (8 * l + 1) (c.2.1 12 (8 * l + 1) + -nI many))) 2 (c.1 2 + nI many)
def relM (m : Nat → Int32) (P l many : Nat) : Nat → Int32 := ovl m (frs (nI l) P many (pgs m))
section STEPS
variable {P NP D K T LC CC FC n : Nat} {c M : OS} {m : Nat → Int32}
theorem c_release {l many : Nat} (hl : l < 80) (hm : many ≤ 64) (hn : 100 < n) : f_X2_release n c (nI l) (nI many) = some (relC c l many) := by
  unfold f_X2_release
  rw [eLet, show (64 : Int32) - (1 : Int32) = nI 64 + -1 by decide, c_rel_loop 64 many c (by omega) hm (by omega)]
  unfold j_X2_release_48
  rw [aL1 hl, ebnd, eLet, eLet]
  rfl
theorem m_frees {many : Nat} {v : Int32} (hP : M.1 1 = nI P) (h64 : P ≤ 64) (hm : many ≤ 64) (hn : 100 < n) : f_X9_frees n M v (nI many) = some (sA M 9 (ovl (M.2.1 9) (frs v P many (pgs (M.2.1 9))))) := by
  unfold f_X9_frees
  rw [eLet, hP, Int32.sub_eq_add_neg, m_fre_loop P many M h64 hm (by omega)]
theorem pc_frs (hP : P ≤ 64) {l many : Nat} (hl : l < 2 ^ 31) (hm : many ≤ pc m P (nI l)) (x : Int32) : pc (relM m P l many) P x + (if x = nI l then many else 0) = pc m P x + (if x = -1 then many else 0) := by
  unfold relM
  rw [pc_ovl hP, pc_pgs m P x]
  exact frs_ct (nI l) (nI_m1 l hl) x P many (pgs m) P (Nat.le_refl _) hm
theorem pc_rel_l (hP : P ≤ 64) {l many : Nat} (hl : l < 80) (hm : many ≤ pc m P (nI l)) : pc (relM m P l many) P (nI l) = pc m P (nI l) - many := by
  have h := pc_frs hP (by omega) hm (nI l)
  rw [if_pos rfl, if_neg (nI_m1 l (by omega))] at h
  omega
theorem pc_rel_f (hP : P ≤ 64) {l many : Nat} (hl : l < 80) (hm : many ≤ pc m P (nI l)) : pc (relM m P l many) P (-1) = pc m P (-1) + many := by
  have h := pc_frs hP (by omega) hm (-1)
  rw [if_neg (fun z => nI_m1 l (by omega) z.symm), if_pos rfl] at h
  omega
theorem pc_rel_o (hP : P ≤ 64) {l many a : Nat} (hl : l < 80) (hm : many ≤ pc m P (nI l)) (ha : a < 80) (h : a ≠ l) : pc (relM m P l many) P (nI a) = pc m P (nI a) := by
  have h2 := pc_frs hP (by omega) hm (nI a)
  rw [if_neg (fun z => h (nI_inj (by omega) (by omega) z)), if_neg (nI_m1 a (by omega))] at h2
  omega
theorem relM_o {l many i : Nat} (h : i < 538 ∨ 602 ≤ i) : relM m P l many i = m i := ovl_out h
theorem R0.release (h : R0 P NP D K T LC CC FC c m) {l many : Nat} (hl : l < LC) (hm : many ≤ pc m P (nI l)) : R0 P NP D K T LC CC FC (relC c l many) (relM m P l many) := by
  have h80 := h.L80
  have h60 := h.C60
  have hP := h.P64
  obtain ⟨⟨hsc, how, hfr, hpr, hln, hcl, hfn, hst⟩, ⟨isc, iow, ipr, imt, iln, icl, ict, ifn⟩⟩ := h
  have ho : ∀ i, (i < 538 ∨ 602 ≤ i) → relM m P l many i = m i := fun i hi => relM_o hi
  have s0 : ∀ j, j < 8 → j ≠ 2 → j ≠ 3 → relM m P l many j = m j := fun j hj _ _ => ho j (by omega)
  have sm : ∀ {a b}, (b ≤ 538 ∨ 602 ≤ a) → Sm a b m (relM m P l many) := fun hb => ovl0_sm ho hb
  refine ⟨⟨hsc.sm (fun j _ h2 _ _ => sI_o h2) s0, ?_, ?_, hpr.sm rfl (sm (by omega)), ?_, hcl.sm h60 rfl (sm (by omega)), hfn.sm rfl (sm (by omega)), hst.sm rfl (sm (by omega))⟩, ⟨isc.sm s0, ?_, ipr.sm (sm (by omega)), imt.sm h60 (sm (by omega)) (sm (by omega)), iln.sm h80 (sm (by omega)), icl.sm h60 (sm (by omega)), ict.sm h60 (ho 8 (by omega)) (ho 9 (by omega)) (sm (by omega)), ifn.sm (sm (by omega))⟩⟩
  · have e : frs (nI l) 64 many (c.2.1 10) = frs (nI l) P many (c.2.1 10) := by
      have := frs_skip (nI l) P (64 - P) many (c.2.1 10) (fun k h1 h2 => by
        rw [how.2 k h1 (by omega)]
        exact fun z => nI_m2 l (by omega) z.symm)
      rwa [show P + (64 - P) = 64 by omega] at this
    refine ⟨fun k hk => ?_, fun k h1 h2 => ?_⟩
    · show frs (nI l) 64 many (c.2.1 10) k = ovl m (frs (nI l) P many (pgs m)) (538 + k)
      rw [e, ovl_in (by omega)]
      exact frs_cong (nI l) P many _ _ (fun i hi => how.1 i hi) k hk
    · show frs (nI l) 64 many (c.2.1 10) k = -2
      rw [e, frs_hi _ _ _ _ _ h1]
      exact how.2 k h1 h2
  · show c.1 2 + nI many = nI (pc (relM m P l many) P (-1))
    rw [hfr, nI_add, pc_rel_f hP (by omega) hm]
  · intro a ha
    obtain ⟨g1, g2, g3, g4, g5, g6, g7⟩ := hln a ha
    show upd (c.2.1 12) (8 * l + 1) (c.2.1 12 (8 * l + 1) + -nI many) (8 * a) = _ ∧ upd (c.2.1 12) (8 * l + 1) (c.2.1 12 (8 * l + 1) + -nI many) (8 * a + 1) = _ ∧ upd (c.2.1 12) (8 * l + 1) (c.2.1 12 (8 * l + 1) + -nI many) (8 * a + 2) = _ ∧ upd (c.2.1 12) (8 * l + 1) (c.2.1 12 (8 * l + 1) + -nI many) (8 * a + 3) = _ ∧ upd (c.2.1 12) (8 * l + 1) (c.2.1 12 (8 * l + 1) + -nI many) (8 * a + 4) = _ ∧ upd (c.2.1 12) (8 * l + 1) (c.2.1 12 (8 * l + 1) + -nI many) (8 * a + 6) = _ ∧ upd (c.2.1 12) (8 * l + 1) (c.2.1 12 (8 * l + 1) + -nI many) (8 * a + 7) = _
    rw [ho _ (by omega), ho _ (by omega), ho _ (by omega), ho _ (by omega), ho _ (by omega), ho _ (by omega), upd_n (by omega), upd_n (k := 8 * l + 1) (j := 8 * a + 2) (by omega), upd_n (k := 8 * l + 1) (j := 8 * a + 3) (by omega), upd_n (k := 8 * l + 1) (j := 8 * a + 4) (by omega), upd_n (k := 8 * l + 1) (j := 8 * a + 6) (by omega), upd_n (k := 8 * l + 1) (j := 8 * a + 7) (by omega)]
    refine ⟨g1, ?_, g3, g4, g5, g6, g7⟩
    by_cases e : a = l
    · subst e
      rw [upd_s, g2, nI_negadd hm, pc_rel_l hP (by omega) hm]
    · rw [upd_n (by omega), g2, pc_rel_o hP (by omega) hm (by omega) e]
  · refine ⟨hP, fun k hk => ?_⟩
    show ovl m (frs (nI l) P many (pgs m)) (538 + k) = -1 ∨ ∃ l1, l1 < LC ∧ ovl m (frs (nI l) P many (pgs m)) (538 + k) = nI l1
    rw [ovl_in (by omega)]
    rcases frs_each (nI l) P many (pgs m) k with h1 | h1
    · rw [h1]
      exact iow.2 k hk
    · exact Or.inl h1.2
/-! one place of the processes -/
theorem idx56 {a p ic im jc jm : Nat} (hi : (ic = 0 ∧ im = 0) ∨ (ic = 1 ∧ im = 1) ∨ (ic = 2 ∧ im = 2) ∨ (ic = 3 ∧ im = 4) ∨ (ic = 4 ∧ im = 5)) (hj : (jc = 0 ∧ jm = 0) ∨ (jc = 1 ∧ jm = 1) ∨ (jc = 2 ∧ jm = 2) ∨ (jc = 3 ∧ jm = 4) ∨ (jc = 4 ∧ jm = 5)) : 5 * a + ic = 5 * p + jc ↔ 10 + 6 * a + im = 10 + 6 * p + jm := by
  rcases hi with ⟨rfl, rfl⟩ | ⟨rfl, rfl⟩ | ⟨rfl, rfl⟩ | ⟨rfl, rfl⟩ | ⟨rfl, rfl⟩ <;> rcases hj with ⟨rfl, rfl⟩ | ⟨rfl, rfl⟩ | ⟨rfl, rfl⟩ | ⟨rfl, rfl⟩ | ⟨rfl, rfl⟩ <;> omega
theorem R0.setP (h : R0 P NP D K T LC CC FC c m) {p jc jm : Nat} (hp : p < 8) (hj : (jc = 0 ∧ jm = 0) ∨ (jc = 1 ∧ jm = 1) ∨ (jc = 2 ∧ jm = 2) ∨ (jc = 3 ∧ jm = 4) ∨ (jc = 4 ∧ jm = 5)) (x : Int32) (hx : jm ≤ 1 → ∃ r, r ≤ 999 ∧ x = nI r) : R0 P NP D K T LC CC FC (sA c 11 (upd (c.2.1 11) (5 * p + jc) x)) (upd m (10 + 6 * p + jm) x) := by
  have h80 := h.L80
  have h60 := h.C60
  have hP := h.P64
  obtain ⟨⟨hsc, how, hfr, hpr, hln, hcl, hfn, hst⟩, ⟨isc, iow, ipr, imt, iln, icl, ict, ifn⟩⟩ := h
  have sm : ∀ {a b}, (b ≤ 10 ∨ 58 ≤ a) → Sm a b m (upd m (10 + 6 * p + jm) x) := fun hb => upd_sm (by omega)
  have s0 := upd_lo (m := m) (k := 10 + 6 * p + jm) (x := x) (by omega)
  refine ⟨⟨hsc.sm (fun j _ _ _ _ => rfl) s0, how.sm hP rfl (sm (by omega)), hfr.sm hP rfl (sm (by omega)), ?_, hln.sm hP h80 rfl (sm (by omega)) (sm (by omega)), hcl.sm h60 rfl (sm (by omega)), hfn.sm rfl (sm (by omega)), hst.sm rfl (sm (by omega))⟩, ⟨isc.sm s0, iow.sm (sm (by omega)), ?_, ?_, iln.sm h80 (sm (by omega)), icl.sm h60 (sm (by omega)), ict.sm h60 (upd_n (by omega)) (upd_n (by omega)) (sm (by omega)), ifn.sm (sm (by omega))⟩⟩
  · intro a ha
    obtain ⟨g1, g2, g3, g4, g5⟩ := hpr a ha
    have key : ∀ ic im, ((ic = 0 ∧ im = 0) ∨ (ic = 1 ∧ im = 1) ∨ (ic = 2 ∧ im = 2) ∨ (ic = 3 ∧ im = 4) ∨ (ic = 4 ∧ im = 5)) → c.2.1 11 (5 * a + ic) = m (10 + 6 * a + im) → upd (c.2.1 11) (5 * p + jc) x (5 * a + ic) = upd m (10 + 6 * p + jm) x (10 + 6 * a + im) := fun ic im hi hg => by
      by_cases e : 5 * a + ic = 5 * p + jc
      · have e2 : 10 + 6 * a + im = 10 + 6 * p + jm := (idx56 hi hj).mp e
        rw [e, e2, upd_s, upd_s]
      · rw [upd_n e, upd_n (fun z => e ((idx56 hi hj).mpr z)), hg]
    exact ⟨key 0 0 (by omega) g1, key 1 1 (by omega) g2, key 2 2 (by omega) g3, key 3 4 (by omega) g4, key 4 5 (by omega) g5⟩
  · intro a ha
    obtain ⟨g1, g2⟩ := ipr a ha
    refine ⟨?_, ?_⟩
    · by_cases e : 10 + 6 * a = 10 + 6 * p + jm
      · rw [e, upd_s]
        exact hx (by omega)
      · rw [upd_n e]
        exact g1
    · by_cases e : 10 + 6 * a + 1 = 10 + 6 * p + jm
      · rw [e, upd_s]
        exact hx (by omega)
      · rw [upd_n e]
        exact g2
  · intro a ha
    rw [upd_n (by omega), stp_sm (sm (by omega)) h60]
    exact imt a ha
/-! one place of the claims that isn't the state -/
theorem R0.putC (h : R0 P NP D K T LC CC FC c m) {q j : Nat} (hq : q < CC) (hj : j = 4 ∨ j = 5) (x : Int32) : R0 P NP D K T LC CC FC (sA c 13 (upd (c.2.1 13) (7 * q + j) x)) (upd m (602 + 7 * q + j) x) := by
  have h80 := h.L80
  have h60 := h.C60
  have hP := h.P64
  obtain ⟨⟨hsc, how, hfr, hpr, hln, hcl, hfn, hst⟩, ⟨isc, iow, ipr, imt, iln, icl, ict, ifn⟩⟩ := h
  have sm : ∀ {a b}, (b ≤ 602 ∨ 1022 ≤ a) → Sm a b m (upd m (602 + 7 * q + j) x) := fun hb => upd_sm (by omega)
  have s0 := upd_lo (m := m) (k := 602 + 7 * q + j) (x := x) (by omega)
  have hs : ∀ v, stc (upd m (602 + 7 * q + j) x) v CC = stc m v CC := fun v => fb_ct_cong fun k hk => by rw [upd_n (by omega)]
  have hp : ∀ p v, stp (upd m (602 + 7 * q + j) x) p v CC = stp m p v CC := fun p v => fb_ct_cong fun k hk => by rw [upd_n (by omega), upd_n (by omega)]
  refine ⟨⟨hsc.sm (fun j _ _ _ _ => rfl) s0, how.sm hP rfl (sm (by omega)), hfr.sm hP rfl (sm (by omega)), hpr.sm rfl (sm (by omega)), hln.sm hP h80 rfl (sm (by omega)) (sm (by omega)), ?_, hfn.sm rfl (sm (by omega)), hst.sm rfl (sm (by omega))⟩, ⟨isc.sm s0, iow.sm (sm (by omega)), ipr.sm (sm (by omega)), ?_, iln.sm h80 (sm (by omega)), ?_, ?_, ifn.sm (sm (by omega))⟩⟩
  · intro a ha i hi
    show upd (c.2.1 13) (7 * q + j) x (7 * a + i) = upd m (602 + 7 * q + j) x (602 + 7 * a + i)
    by_cases e : 7 * a + i = 7 * q + j
    · rw [e, show 602 + 7 * a + i = 602 + 7 * q + j by omega, upd_s, upd_s]
    · rw [upd_n e, upd_n (by omega), hcl a ha i hi]
  · intro a ha
    rw [upd_n (by omega), hp]
    exact imt a ha
  · intro a ha
    rw [upd_n (by omega), upd_n (by omega), upd_n (by omega)]
    exact icl a ha
  · unfold ICt
    rw [upd_n (by omega), upd_n (by omega), hs, hs]
    exact ict
/-! a claim that waits changes its state: to v, with the counts that the row keeps -/
theorem stc_set {q : Nat} (hq : q < CC) (x v : Int32) : stc (upd m (602 + 7 * q + 3) x) v CC + (if m (602 + 7 * q + 3) = v then 1 else 0) = stc m v CC + (if x = v then 1 else 0) := by
  have h := fb_ct_upd (fun k => decide (m (602 + 7 * k + 3) = v)) (decide (x = v)) hq
  have e : stc (upd m (602 + 7 * q + 3) x) v CC = fb_ct (fun k => if k = q then decide (x = v) else decide (m (602 + 7 * k + 3) = v)) CC := fb_ct_cong fun k hk => by
    by_cases e : k = q
    · subst e
      rw [upd_s, if_pos rfl]
    · rw [upd_n (by omega), if_neg e]
  rw [e]
  simp only [decide_eq_true_eq] at h
  exact h
theorem stp_set {q : Nat} (hq : q < CC) (p x v : Int32) : stp (upd m (602 + 7 * q + 3) x) p v CC + (if m (602 + 7 * q + 3) = v ∧ m (602 + 7 * q) = p then 1 else 0) = stp m p v CC + (if x = v ∧ m (602 + 7 * q) = p then 1 else 0) := by
  have h := fb_ct_upd (fun k => decide (m (602 + 7 * k + 3) = v) && decide (m (602 + 7 * k) = p)) (decide (x = v) && decide (m (602 + 7 * q) = p)) hq
  have e : stp (upd m (602 + 7 * q + 3) x) p v CC = fb_ct (fun k => if k = q then (decide (x = v) && decide (m (602 + 7 * q) = p)) else (decide (m (602 + 7 * k + 3) = v) && decide (m (602 + 7 * k) = p))) CC := fb_ct_cong fun k hk => by
    by_cases e : k = q
    · subst e
      rw [upd_s, if_pos rfl, upd_n (by omega)]
    · rw [upd_n (by omega), if_neg e, upd_n (by omega)]
  rw [e]
  simp only [Bool.and_eq_true, decide_eq_true_eq] at h
  exact h
theorem wt_iff {q : Nat} : wt m q = true ↔ m (602 + 7 * q + 3) = 0 := decide_eq_true_iff
theorem R0.refuse (h : R0 P NP D K T LC CC FC c m) {q : Nat} (hq : q < CC) (hw : wt m q = true) (x : Int32) (hx : x = 2 ∨ x = 3) : R0 P NP D K T LC CC FC (sA c 13 (upd (c.2.1 13) (7 * q + 3) x)) (if x = 2 then upd (upd m (602 + 7 * q + 3) x) 9 (m 9 + 1) else upd m (602 + 7 * q + 3) x) := by
  have h80 := h.L80
  have h60 := h.C60
  have hP := h.P64
  have hw := wt_iff.mp hw
  obtain ⟨⟨hsc, how, hfr, hpr, hln, hcl, hfn, hst⟩, ⟨isc, iow, ipr, imt, iln, icl, ict, ifn⟩⟩ := h
  generalize hm' : (if x = 2 then upd (upd m (602 + 7 * q + 3) x) 9 (m 9 + 1) else upd m (602 + 7 * q + 3) x) = m'
  have ho : ∀ i, i ≠ 602 + 7 * q + 3 → i ≠ 9 → m' i = m i := fun i h1 h2 => by
    rw [← hm']
    split
    · rw [upd_n h2, upd_n h1]
    · rw [upd_n h1]
  have hs3 : m' (602 + 7 * q + 3) = x := by
    rw [← hm']
    split
    · rw [upd_n (by omega), upd_s]
    · rw [upd_s]
  have sm : ∀ {a b}, ((b ≤ 602 ∨ 1022 ≤ a) ∧ 10 ≤ a) → Sm a b m m' := fun hb i h1 h2 => ho i (by omega) (by omega)
  have s0 : ∀ j, j < 8 → j ≠ 2 → j ≠ 3 → m' j = m j := fun j hj _ _ => ho j (by omega) (by omega)
  have e1 : ∀ v, stc m' v CC = stc (upd m (602 + 7 * q + 3) x) v CC := fun v => fb_ct_cong fun k hk => by
    by_cases e : k = q
    · subst e
      rw [hs3, upd_s]
    · rw [ho _ (by omega) (by omega), upd_n (by omega)]
  have e2 : ∀ p v, stp m' p v CC = stp (upd m (602 + 7 * q + 3) x) p v CC := fun p v => fb_ct_cong fun k hk => by
    rw [ho (602 + 7 * k) (by omega) (by omega), upd_n (k := 602 + 7 * q + 3) (j := 602 + 7 * k) (by omega)]
    by_cases e : k = q
    · subst e
      rw [hs3, upd_s]
    · rw [ho _ (by omega) (by omega), upd_n (by omega)]
  have x1 : x ≠ 1 := by rcases hx with rfl | rfl <;> decide
  have z1 : (0 : Int32) ≠ 1 := by decide
  have z2 : (0 : Int32) ≠ 2 := by decide
  refine ⟨⟨hsc.sm (fun j _ _ _ _ => rfl) s0, how.sm hP rfl (sm (by omega)), hfr.sm hP rfl (sm (by omega)), hpr.sm rfl (sm (by omega)), hln.sm hP h80 rfl (sm (by omega)) (sm (by omega)), ?_, hfn.sm rfl (sm (by omega)), hst.sm rfl (sm (by omega))⟩, ⟨isc.sm s0, iow.sm (sm (by omega)), ipr.sm (sm (by omega)), ?_, iln.sm h80 (sm (by omega)), ?_, ?_, ifn.sm (sm (by omega))⟩⟩
  · intro a ha i hi
    show upd (c.2.1 13) (7 * q + 3) x (7 * a + i) = m' (602 + 7 * a + i)
    by_cases e : 7 * a + i = 7 * q + 3
    · rw [e, show 602 + 7 * a + i = 602 + 7 * q + 3 by omega, upd_s, hs3]
    · rw [upd_n e, ho _ (by omega) (by omega), hcl a ha i hi]
  · intro a ha
    have h1 := stp_set (m := m) hq (nI a) x 1
    rw [if_neg (fun z => z1 (hw.symm.trans z.1)), if_neg (fun z => x1 z.1)] at h1
    rw [ho _ (by omega) (by omega), e2, imt a ha]
    exact congrArg nI (by omega)
  · intro a ha
    rw [ho _ (by omega) (by omega), ho _ (by omega) (by omega), ho _ (by omega) (by omega)]
    exact icl a ha
  · have h1 := stc_set (m := m) hq x 1
    have h2 := stc_set (m := m) hq x 2
    rw [hw, if_neg z1, if_neg x1] at h1
    rw [hw, if_neg z2] at h2
    refine ⟨?_, ?_, ?_⟩
    · rw [ho _ (by omega) (by omega), e1, ict.1]
      exact congrArg nI (by omega)
    · rw [e1]
      rcases hx with rfl | rfl
      · rw [if_pos rfl] at h2
        rw [← hm', if_pos rfl, upd_s, ict.2.1, nI_1]
        exact congrArg nI (by omega)
      · rw [if_neg (by decide)] at h2
        rw [← hm', if_neg (by decide), upd_n (by omega), ict.2.1]
        exact congrArg nI (by omega)
    · rw [e1]
      have := ict.2.2
      omega
/-- a claim that waits is met: the row's counts of the court and of its process -/
def metM (m : Nat → Int32) (q p : Nat) (v : Int32) : Nat → Int32 := upd (upd (upd (upd m (602 + 7 * q + 3) 1) (602 + 7 * q + 5) v) 8 (m 8 + 1)) (10 + 6 * p + 3) (m (10 + 6 * p + 3) + 1)
theorem metM_o {q p i : Nat} {v : Int32} (h1 : i ≠ 602 + 7 * q + 3) (h2 : i ≠ 602 + 7 * q + 5) (h3 : i ≠ 8) (h4 : i ≠ 10 + 6 * p + 3) : metM m q p v i = m i := by
  unfold metM
  rw [upd_n h4, upd_n h3, upd_n h2, upd_n h1]
theorem R0.met (h : R0 P NP D (K + 1) T LC CC FC c m) {q p : Nat} (hq : q < CC) (hw : wt m q = true) (hp : p < 8) (hpo : m (602 + 7 * q) = nI p) (v : Int32) : R0 P NP D K T LC CC FC (sA c 13 (upd (upd (c.2.1 13) (7 * q + 3) 1) (7 * q + 5) v)) (metM m q p v) := by
  have h80 := h.L80
  have h60 := h.C60
  have hP := h.P64
  have hw := wt_iff.mp hw
  obtain ⟨⟨hsc, how, hfr, hpr, hln, hcl, hfn, hst⟩, ⟨isc, iow, ipr, imt, iln, icl, ict, ifn⟩⟩ := h
  have ho : ∀ i, i ≠ 602 + 7 * q + 3 → i ≠ 602 + 7 * q + 5 → i ≠ 8 → i ≠ 10 + 6 * p + 3 → metM m q p v i = m i := fun i h1 h2 h3 h4 => metM_o h1 h2 h3 h4
  have hs3 : metM m q p v (602 + 7 * q + 3) = 1 := by
    unfold metM
    rw [upd_n (by omega), upd_n (by omega), upd_n (by omega), upd_s]
  have hs5 : metM m q p v (602 + 7 * q + 5) = v := by
    unfold metM
    rw [upd_n (by omega), upd_n (by omega), upd_s]
  have hs8 : metM m q p v 8 = m 8 + 1 := by
    unfold metM
    rw [upd_n (by omega), upd_s]
  have hsp : metM m q p v (10 + 6 * p + 3) = m (10 + 6 * p + 3) + 1 := upd_s _ _ _
  generalize metM m q p v = m' at ho hs3 hs5 hs8 hsp ⊢
  have sm : ∀ {a b}, ((b ≤ 602 ∨ 1022 ≤ a) ∧ 58 ≤ a) → Sm a b m m' := fun hb i h1 h2 => ho i (by omega) (by omega) (by omega) (by omega)
  have s0 : ∀ j, j < 8 → j ≠ 2 → j ≠ 3 → m' j = m j := fun j hj _ _ => ho j (by omega) (by omega) (by omega) (by omega)
  have e1 : ∀ v, stc m' v CC = stc (upd m (602 + 7 * q + 3) 1) v CC := fun v => fb_ct_cong fun k hk => by
    by_cases e : k = q
    · subst e
      rw [hs3, upd_s]
    · rw [ho _ (by omega) (by omega) (by omega) (by omega), upd_n (by omega)]
  have e2 : ∀ p v, stp m' p v CC = stp (upd m (602 + 7 * q + 3) 1) p v CC := fun p v => fb_ct_cong fun k hk => by
    rw [ho (602 + 7 * k) (by omega) (by omega) (by omega) (by omega), upd_n (k := 602 + 7 * q + 3) (j := 602 + 7 * k) (by omega)]
    by_cases e : k = q
    · subst e
      rw [hs3, upd_s]
    · rw [ho _ (by omega) (by omega) (by omega) (by omega), upd_n (by omega)]
  have z1 : (0 : Int32) ≠ 1 := by decide
  have z2 : (0 : Int32) ≠ 2 := by decide
  refine ⟨⟨hsc.sm (fun j _ _ _ _ => rfl) s0, how.sm hP rfl (sm (by omega)), hfr.sm hP rfl (sm (by omega)), ?_, hln.sm hP h80 rfl (sm (by omega)) (sm (by omega)), ?_, hfn.sm rfl (sm (by omega)), hst.sm rfl (sm (by omega))⟩, ⟨isc.sm s0, iow.sm (sm (by omega)), ?_, ?_, iln.sm h80 (sm (by omega)), ?_, ?_, ifn.sm (sm (by omega))⟩⟩
  · intro a ha
    rw [ho _ (by omega) (by omega) (by omega) (by omega), ho _ (by omega) (by omega) (by omega) (by omega), ho _ (by omega) (by omega) (by omega) (by omega), ho _ (by omega) (by omega) (by omega) (by omega), ho _ (by omega) (by omega) (by omega) (by omega)]
    exact hpr a ha
  · intro a ha i hi
    show upd (upd (c.2.1 13) (7 * q + 3) 1) (7 * q + 5) v (7 * a + i) = m' (602 + 7 * a + i)
    by_cases e : 7 * a + i = 7 * q + 5
    · rw [e, show 602 + 7 * a + i = 602 + 7 * q + 5 by omega, upd_s, hs5]
    · rw [upd_n e]
      by_cases e : 7 * a + i = 7 * q + 3
      · rw [e, show 602 + 7 * a + i = 602 + 7 * q + 3 by omega, upd_s, hs3]
      · rw [upd_n e, ho _ (by omega) (by omega) (by omega) (by omega), hcl a ha i hi]
  · intro a ha
    rw [ho _ (by omega) (by omega) (by omega) (by omega), ho _ (by omega) (by omega) (by omega) (by omega)]
    exact ipr a ha
  · intro a ha
    have h1 := stp_set (m := m) hq (nI a) 1 1
    rw [if_neg (fun z => z1 (hw.symm.trans z.1))] at h1
    by_cases e : a = p
    · subst e
      rw [if_pos ⟨rfl, hpo⟩] at h1
      rw [hsp, e2, imt a ha, nI_1]
      exact congrArg nI (by omega)
    · rw [if_neg (fun z => e (nI_inj (by omega) (by omega) (z.2.symm.trans hpo)))] at h1
      rw [ho _ (by omega) (by omega) (by omega) (by omega), e2, imt a ha]
      exact congrArg nI (by omega)
  · intro a ha
    rw [ho _ (by omega) (by omega) (by omega) (by omega), ho _ (by omega) (by omega) (by omega) (by omega), ho _ (by omega) (by omega) (by omega) (by omega)]
    exact icl a ha
  · have h1 := stc_set (m := m) hq 1 1
    have h2 := stc_set (m := m) hq 1 2
    rw [hw, if_neg z1, if_pos rfl] at h1
    rw [hw, if_neg z2, if_neg (by decide)] at h2
    refine ⟨?_, ?_, ?_⟩
    · rw [hs8, e1, ict.1, nI_1]
      exact congrArg nI (by omega)
    · rw [ho _ (by omega) (by omega) (by omega) (by omega), e1, ict.2.1]
      exact congrArg nI (by omega)
    · rw [e1]
      have := ict.2.2
      omega
end STEPS
