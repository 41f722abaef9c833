/-! ticks one after another; courts and rows copied -/
def cT (n : Nat) (ru : OS) : Nat → OS → Option (OS × Int32)
  | 0, c => some (c, 0)
  | a + 1, c => bnd2 (cT n ru a c) (fun c1 s => bnd2 (f_X2_tick n c1 ru) (fun c2 r => some (c2, s + r)))
def mT (n : Nat) : Nat → OS → Option OS
  | 0, M => some M
  | a + 1, M => bnd (mT n a M) (fun M1 => f_X9_ticks n M1)
/-- what a ticks leave -/
def TKn (P NP D T LC CC FC E a : Nat) (c M c' M' : OS) (s : Int32) : Prop := ∃ LC' FC', RR P NP D (T + a) LC' CC FC' c' (M'.2.1 9) ∧ LC ≤ LC' ∧ Fr M M' ∧ M'.2.1 9 8 = M.2.1 9 8 + s ∧ (∀ q, q < CC → wt (M.2.1 9) q = false → M'.2.1 9 (602 + 7 * q + 3) = M.2.1 9 (602 + 7 * q + 3)) ∧ ((∀ i, i < a → (T + i + 1) % E ≠ 0) → M'.1 = M.1 ∧ LC' = LC) ∧ Rch P NP CC T LC FC (M.2.1 9) (T + a) LC' FC' (M'.2.1 9)
section GOES
variable {P NP D K T LC CC FC E Bs F Pt Ap n : Nat} {c ru M : OS} {m : Nat → Int32}
theorem ticks (hU : Ru P NP E Bs F Pt Ap ru M) (hn : 100 < n) (hD : 2100 ≤ D) (hD2 : D ≤ 100000) (hRR : RR P NP D T LC CC FC c (M.2.1 9)) : ∀ a, T + a ≤ 2000 → ∃ c' M' s, cT n ru a c = some (c', s) ∧ mT n a M = some M' ∧ TKn P NP D T LC CC FC E a c M c' M' s := by
  intro a
  induction a with
  | zero =>
    intro _
    exact ⟨c, M, 0, rfl, rfl, LC, FC, hRR, Nat.le_refl _, Fr.rf M, (Int32.add_zero _).symm, fun _ _ _ => rfl, fun _ => ⟨rfl, rfl⟩, Rch.rf⟩
  | succ a ih =>
    intro ha
    obtain ⟨c1, M1, s1, a1, a2, LC1, FC1, b1, b2, b3, b4, b5, b6, b7⟩ := ih (by omega)
    obtain ⟨c2, M2, met, d1, d2, LC2, FC2, e1, e2, e3, e4, e5, e6, _, e8⟩ := tick (n := n) b1 (hU.Fr b3) hn hD hD2 (by omega)
    refine ⟨c2, M2, s1 + met, ?_, ?_, LC2, FC2, e1, by omega, b3.tr e3, ?_, ?_, ?_, b7.tr (Rch.tick.tr e8)⟩
    · show bnd2 (cT n ru a c) _ = _
      rw [a1, ebnd2, d1, ebnd2]
    · show bnd (mT n a M) _ = _
      rw [a2, ebnd, d2]
    · rw [e4, b4, Int32.add_assoc]
    · intro q q1 q2
      rw [e5 q q1 (by unfold wt at q2 ⊢; rw [b5 q q1 q2]; exact q2), b5 q q1 q2]
    · intro hi
      obtain ⟨h1, h2⟩ := b6 (fun i hi2 => hi i (by omega))
      obtain ⟨h3, h4⟩ := e6 (hi a (by omega))
      exact ⟨h3.trans h1, h4.trans h2⟩
/-! copies -/
theorem tcpy {z : Nat} {cc cc2 : Int32} {t u : Nat → Int32} (hz : z < 2 ^ 31) : f_X6_copyFrom n cc z t cc2 z u = some (va_cpy u t 0 0 z) := by
  have e : (if (Int32.ofNat z) < (Int32.ofNat z) then (Int32.ofNat z) else (Int32.ofNat z)) = nI z := by
    rw [ite_self]
    rfl
  have e0 : (0 : Int32).toNatClampNeg = 0 := by decide
  unfold f_X6_copyFrom
  rw [e, e0, nI_clamp hz, eoN, eLet]
  rintro (h | h | h | h | h)
  · exact absurd h (by decide)
  · exact absurd h (by decide)
  · exact nI_pos hz h
  · omega
  · omega
/-- two courts hold the same -/
def Cpy (p c' : OS) : Prop := (∀ j, j < 9 → c'.1 j = p.1 j) ∧ (∀ k, k < 64 → c'.2.1 10 k = p.2.1 10 k) ∧ (∀ k, k < 251 → c'.2.2.1 9 k = p.2.2.1 9 k) ∧ (∀ k, k < 40 → c'.2.1 11 k = p.2.1 11 k) ∧ (∀ k, k < 640 → c'.2.1 12 k = p.2.1 12 k) ∧ (∀ k, k < 420 → c'.2.1 13 k = p.2.1 13 k) ∧ (∀ k, k < 320 → c'.2.1 14 k = p.2.1 14 k)
theorem c_copy (th p : OS) : ∃ c', f_X2_copyFrom n th p = some c' ∧ Cpy p c' := by
  unfold f_X2_copyFrom
  simp only [eLet]
  rw [eoN (by decide), eoN (by decide), tcpy (by decide), ebnd, tcpy (by decide), ebnd, tcpy (by decide), ebnd, tcpy (by decide), ebnd]
  refine ⟨_, rfl, ?_, ?_, ?_, ?_, ?_, ?_, ?_⟩
  · intro j hj
    match j, hj with
    | 0, _ => rfl
    | 1, _ => rfl
    | 2, _ => rfl
    | 3, _ => rfl
    | 4, _ => rfl
    | 5, _ => rfl
    | 6, _ => rfl
    | 7, _ => rfl
    | 8, _ => rfl
  · intro k hk
    exact sb_cpy0 (n := 64) hk
  · intro k hk
    exact (pk_cpy_in (n := 251) (sp := 0) (dp := 0) (Nat.zero_le _) (by omega)).trans (by rw [Nat.zero_add, Nat.sub_zero])
  · intro k hk
    exact sb_cpy0 (n := 40) hk
  · intro k hk
    exact sb_cpy0 (n := 640) hk
  · intro k hk
    exact sb_cpy0 (n := 420) hk
  · intro k hk
    exact sb_cpy0 (n := 320) hk
theorem R0.cpy {c' : OS} {m' : Nat → Int32} (h : R0 P NP D K T LC CC FC c m) (hc : Cpy c c') (hm : ∀ i, i < 1846 → m' i = m i) : R0 P NP D K T LC CC FC c' m' := by
  have h80 := h.L80
  have h60 := h.C60
  have hP := h.P64
  have h0 : R0 P NP D K T LC CC FC c' m := by
    obtain ⟨⟨hsc, how, hfr, hpr, hln, hcl, hfn, hst⟩, hI⟩ := h
    obtain ⟨k1, k2, k3, k4, k5, k6, k7⟩ := hc
    refine ⟨⟨?_, ⟨fun k hk => ?_, fun k q1 q2 => ?_⟩, ?_, fun p hp => ?_, fun l hl => ?_, fun q hq j hj => ?_, fun r hr hf j hj => ?_, fun p hp => ⟨fun t ht => ?_, fun t ht q => ?_⟩⟩, hI⟩
    · unfold RSc
      rw [k1 0 (by omega), k1 1 (by omega), k1 3 (by omega), k1 4 (by omega), k1 5 (by omega), k1 8 (by omega)]
      exact hsc
    · rw [k2 k (by omega)]
      exact how.1 k hk
    · rw [k2 k q2]
      exact how.2 k q1 q2
    · unfold RFr
      rw [k1 2 (by omega)]
      exact hfr
    · rw [k4 _ (by omega), k4 _ (by omega), k4 _ (by omega), k4 _ (by omega), k4 _ (by omega)]
      exact hpr p hp
    · rw [k5 _ (by omega), k5 _ (by omega), k5 _ (by omega), k5 _ (by omega), k5 _ (by omega), k5 _ (by omega), k5 _ (by omega)]
      exact hln l hl
    · rw [k6 _ (by omega)]
      exact hcl q hq j hj
    · rw [k7 _ (by omega)]
      exact hfn r hr hf j hj
    · have e : cb c' p t = cb c p t := by
        unfold cb
        rw [k3 _ (by omega)]
      rw [e]
      exact (hst p hp).1 t ht
    · have e : cb c' p t = cb c p t := by
        unfold cb
        rw [k3 _ (by omega)]
      rw [e]
      exact (hst p hp).2 t ht q
  exact h0.ext (fun _ _ _ _ => rfl) (fun _ _ _ => rfl) rfl (fun j _ _ hj => hm j hj)
theorem RR.cpy {c' : OS} {m' : Nat → Int32} (h : RR P NP D T LC CC FC c m) (hc : Cpy c c') (hm : ∀ i, i < 1846 → m' i = m i) : RR P NP D T LC CC FC c' m' := by
  obtain ⟨h1, h2, h3, h4⟩ := h
  refine ⟨h1.cpy hc hm, ?_, ?_, h4⟩
  · unfold RHe
    rw [hc.1 6 (by omega), hc.1 7 (by omega), hm 2 (by omega), hm 3 (by omega)]
    exact h2
  · unfold IHe
    rw [hm 3 (by omega)]
    exact h3
theorem Cpy.rf (c : OS) : Cpy c c := ⟨fun _ _ => rfl, fun _ _ => rfl, fun _ _ => rfl, fun _ _ => rfl, fun _ _ => rfl, fun _ _ => rfl, fun _ _ => rfl⟩
theorem RR.row {m' : Nat → Int32} (h : RR P NP D T LC CC FC c m) (hm : ∀ i, i < 1846 → m' i = m i) : RR P NP D T LC CC FC c m' := h.cpy (Cpy.rf c) hm
theorem m_copies (hn : 2000 < n) (a b : Nat → Int32) : ∃ y, f_X9_copies n 1846 a 1846 b = some y ∧ (∀ i, i < 1846 → y i = a i) := by
  have h := loop_inv (l := l_X9_copies_2 n 1846 1846 a) (fun i s => ∀ k, k < i → s k = a k) (Q := fun r => ∀ i, i < 1846 → r i = a i) (K := 1846) (fun N s hs => ?_) (fun N s i hi hs => Or.inl ?_) 0 n b (by omega) (by omega) (fun k hk => absurd hk (by omega))
  · exact h
  · refine ⟨s, ?_, hs⟩
    show s_X9_copies_2 n 1846 1846 a _ s (nI 1846) = _
    unfold s_X9_copies_2
    rw [if_pos (show (1846 : Int32) ≤ nI 1846 from Int32.le_refl (1846 : Int32))]
  · refine ⟨upd s i (a i), ?_, ?_⟩
    · intro k hk
      by_cases e : k = i
      · subst e
        rw [upd_s]
      · rw [upd_n e]
        exact hs k (by omega)
    · show s_X9_copies_2 n 1846 1846 a _ s (nI i) = _
      unfold s_X9_copies_2
      rw [if_neg (show ¬ (1846 : Int32) ≤ nI i from nI_ge (a := i) (b := 1846) hi (by decide)), egN hi (by decide), eLet, egN hi (by decide), eLet, eLet, nI_clamp (by omega), nI_1]
theorem m_starts (hn : 2000 < n) : ∃ y, f_X9_starts n M = some (sA M 11 y) ∧ (∀ i, i < 1846 → y i = M.2.1 9 i) := by
  obtain ⟨y, h1, h2⟩ := m_copies (n := n) hn (M.2.1 9) (M.2.1 11)
  refine ⟨y, ?_, h2⟩
  unfold f_X9_starts
  rw [h1, ebnd, eLet]
theorem m_tries (hn : 2000 < n) : ∃ y, f_X9_tries n M = some (sA M 12 y) ∧ (∀ i, i < 1846 → y i = M.2.1 9 i) := by
  obtain ⟨y, h1, h2⟩ := m_copies (n := n) hn (M.2.1 9) (M.2.1 12)
  refine ⟨y, ?_, h2⟩
  unfold f_X9_tries
  rw [h1, ebnd, eLet]
theorem m_laysBack (hn : 2000 < n) (v : Int32) : ∃ y, f_X9_laysBack n M v = some (sA M 9 y, v) ∧ (∀ i, i < 1846 → y i = M.2.1 12 i) := by
  obtain ⟨y, h1, h2⟩ := m_copies (n := n) hn (M.2.1 12) (M.2.1 9)
  refine ⟨y, ?_, h2⟩
  unfold f_X9_laysBack
  rw [h1, ebnd, eLet]
/-! the loops over ticks -/
theorem c_iter {β : Type} {l : Nat → OS × Int32 → Int32 → Option β} {fin : OS × Int32 → β} {a : Nat} (hstop : ∀ N s, l (N + 1) s (nI a) = some (fin s)) (hstep : ∀ N s i, i < a → l (N + 1) s (nI i) = bnd2 (f_X2_tick n s.1 ru) (fun c2 r => l N (c2, s.2 + r) (nI (i + 1)))) (hk : ∀ i, i ≤ a → ∃ r, cT n ru i c = some r) : ∀ N, a < N → ∃ r, cT n ru a c = some r ∧ l N (c, 0) (nI 0) = some (fin r) := by
  intro N hN
  have h := loop_inv (l := l) (fun i s => cT n ru i c = some s) (Q := fun z => ∃ r, cT n ru a c = some r ∧ z = fin r) (K := a) (fun N s hs => ⟨fin s, hstop N s, s, hs, rfl⟩) (fun N s i hi hs => Or.inl ?_) 0 N (c, 0) (by omega) (by omega) rfl
  · obtain ⟨z, h1, r, h2, h3⟩ := h
    exact ⟨r, h2, h1.trans (congrArg some h3)⟩
  · obtain ⟨⟨c2, s2⟩, hr⟩ := hk (i + 1) (by omega)
    have hr2 : bnd2 (cT n ru i c) (fun c1 s => bnd2 (f_X2_tick n c1 ru) (fun c2 r => some (c2, s + r))) = some (c2, s2) := hr
    obtain ⟨s1, ss⟩ := s
    rw [hs, ebnd2] at hr2
    obtain ⟨c3, r3, h3, h4⟩ := ob2 hr2
    refine ⟨(c2, s2), hr, ?_⟩
    rw [hstep N (s1, ss) i hi]
    show bnd2 (f_X2_tick n s1 ru) _ = _
    rw [h3, ebnd2]
    have h5 := Option.some.inj h4
    rw [← h5]
theorem m_goesOn {a many : Nat} (ha : a = min many (2000 - T)) (hT : T ≤ 2000) (hmany : many ≤ 2000) (hn : 2500 < n) (hk : ∀ i, i ≤ a → ∃ M', mT n i M = some M' ∧ M'.2.1 9 0 = nI (T + i)) : ∃ M', mT n a M = some M' ∧ f_X9_goesOn n M (nI many) = some (M', M'.2.1 9 8 - M.2.1 9 8) := by
  have h := loop_inv (l := l_X9_goesOn_10 n (nI many) (M.2.1 9 8)) (fun i t => mT n i M = some t) (Q := fun z => ∃ M', mT n a M = some M' ∧ z = (M', M'.2.1 9 8 - M.2.1 9 8)) (K := a) (fun N t ht => ?_) (fun N t i hi ht => Or.inl ?_) 0 n M (by omega) (by omega) rfl
  · obtain ⟨z, h1, M', h2, h3⟩ := h
    refine ⟨M', h2, ?_⟩
    unfold f_X9_goesOn
    rw [gz8]
    exact h1.trans (congrArg some h3)
  · refine ⟨_, ?_, t, ht, rfl⟩
    show s_X9_goesOn_10 n (nI many) (M.2.1 9 8) _ t (nI a) = _
    unfold s_X9_goesOn_10
    obtain ⟨t', h1, h2⟩ := hk a (Nat.le_refl _)
    have : t' = t := Option.some.inj (h1.symm.trans ht)
    subst this
    by_cases q : many ≤ a
    · rw [if_pos (nI_le q (by omega)), gz8]
    · rw [if_neg (nI_ge (show a < many by omega) (by omega)), gz0, h2, if_pos (show (2000 : Int32) ≤ nI (T + a) from nI_le (a := 2000) (b := T + a) (by omega) (by omega)), gz8]
  · obtain ⟨t', h1, h2⟩ := hk i (by omega)
    have : t' = t := Option.some.inj (h1.symm.trans ht)
    subst this
    obtain ⟨t2, h3, _⟩ := hk (i + 1) (by omega)
    have h4 : bnd (mT n i M) (fun M1 => f_X9_ticks n M1) = some t2 := h3
    rw [ht, ebnd] at h4
    refine ⟨t2, h3, ?_⟩
    show s_X9_goesOn_10 n (nI many) (M.2.1 9 8) _ t' (nI i) = _
    unfold s_X9_goesOn_10
    rw [if_neg (nI_ge (show i < many by omega) (by omega)), gz0, h2, if_neg (show ¬ (2000 : Int32) ≤ nI (T + i) from nI_ge (a := T + i) (b := 2000) (by omega) (by omega)), h4, ebnd, eLet, nI_1]
theorem c_pass {sv : Value} {th no fo : OS} {a many : Nat} (ha : a = min many (2000 - T)) (hT : T ≤ 2000) (hmany : many ≤ 2000) (hn : 2500 < n) (hno : no.1 0 = nI T) (hk : ∀ i, i ≤ a → ∃ r, cT n ru i fo = some r) : ∃ r, cT n ru a fo = some r ∧ f_X8_pass n sv th ru no fo (nI many) = some r := by
  have e : (if ((2000 : Int32) - (no.1 0)) < nI many then ((2000 : Int32) - (no.1 0)) else nI many) = nI a := by
    rw [hno, show (2000 : Int32) - nI T = nI (2000 - T) from pk_sub (a := 2000) hT, minI (by omega) (by omega), ha, Nat.min_comm]
  unfold f_X8_pass
  rw [eLet, e]
  refine c_iter (l := fun N (s : OS × Int32) i => l_X8_pass_21 n sv th ru no (nI a) N s.1 s.2 i) (fin := fun r => r) (fun N s => ?_) (fun N s i hi => ?_) hk n (by omega)
  · show s_X8_pass_21 n sv th ru no (nI a) _ s.1 s.2 (nI a) = _
    unfold s_X8_pass_21
    rw [if_pos (Int32.le_refl _)]
  · show s_X8_pass_21 n sv th ru no (nI a) _ s.1 s.2 (nI i) = _
    unfold s_X8_pass_21
    rw [if_neg (nI_ge hi (by omega))]
    simp only [eLet, nI_1]
theorem c_run {sv : Value} {th no : OS} {pa : PS} {a : Nat} (ha : a ≤ 2000) (hn : 2500 < n) (hk : ∀ i, i ≤ a → ∃ r, cT n ru i no = some r) : ∃ r, cT n ru a no = some r ∧ l_X8_run_46 n sv th ru (nI a) n no pa 0 0 = some (r.1, pa, r.2, 0) := by
  refine c_iter (l := fun N (s : OS × Int32) i => l_X8_run_46 n sv th ru (nI a) N s.1 pa s.2 i) (fin := fun r => (r.1, pa, r.2, 0)) (fun N s => ?_) (fun N s i hi => ?_) hk n (by omega)
  · show s_X8_run_46 n sv th ru (nI a) _ s.1 pa s.2 (nI a) = _
    unfold s_X8_run_46
    rw [if_pos (Int32.le_refl _)]
  · show s_X8_run_46 n sv th ru (nI a) _ s.1 pa s.2 (nI i) = _
    unfold s_X8_run_46
    rw [if_neg (nI_ge hi (by omega))]
    simp only [eLet, nI_1]
/-! the next hearing -/
def nxt (T E : Nat) : Nat := (T / E + 1) * E
theorem nxt_gt {T E : Nat} (hE : 1 ≤ E) : T < nxt T E ∧ nxt T E ≤ T + E := by
  have h1 := Nat.div_add_mod T E
  have h2 : T % E < E := Nat.mod_lt _ (by omega)
  unfold nxt
  rw [Nat.add_mul, Nat.one_mul, Nat.mul_comm]
  omega
theorem nxt_mod {T E i : Nat} (hE : 1 ≤ E) (h : T + i + 1 < nxt T E) : (T + i + 1) % E ≠ 0 := by
  have h1 := Nat.div_add_mod T E
  have h3 := Nat.div_add_mod (T + i + 1) E
  intro z
  rw [z, Nat.add_zero] at h3
  unfold nxt at h
  have h5 : E * ((T + i + 1) / E) < E * (T / E + 1) := by
    rw [h3, Nat.mul_comm E (T / E + 1)]
    exact h
  have h6 := Nat.lt_of_mul_lt_mul_left h5
  have h7 : T / E ≤ (T + i + 1) / E := Nat.div_le_div_right (by omega)
  have h8 : (T + i + 1) / E = T / E := by omega
  have h2 : T % E < E := Nat.mod_lt _ (by omega)
  rw [h8] at h3
  omega
theorem nxt_0 (T E : Nat) : nxt T E % E = 0 := Nat.mul_mod_left _ _
theorem c_next (hU : Ru P NP E Bs F Pt Ap ru M) (hT : T ≤ 2000) : f_X5_hearingAfter n ru (nI T) = some (if nxt T E ≤ 2000 then nI (nxt T E) else -1) := by
  have hE : 1 ≤ E ∧ E ≤ 50 := ⟨hU.2.2.2.2.2.1, hU.2.2.2.2.2.2.1⟩
  have hx := nxt_gt (T := T) hE.1
  unfold f_X5_hearingAfter
  rw [hU.1.2.2.1, if_neg (nI_nle (by omega) (by omega)), eoN (nI_ne0 (by omega) (by omega)), pk_div (by omega) (by omega) (by omega), nI_1, pk_mul]
  show j_X5_hearingAfter_24 n ru (nI (nxt T E)) = _
  unfold j_X5_hearingAfter_24
  by_cases h : nxt T E ≤ 2000
  · rw [if_pos h, if_neg (show ¬ (2000 : Int32) < nI (nxt T E) from nI_nlt (a := 2000) (b := nxt T E) h (by decide))]
  · rw [if_neg h, if_pos (show (2000 : Int32) < nI (nxt T E) from nI_lt (a := 2000) (b := nxt T E) (by omega) (by omega))]
theorem m_next (hU : Ru P NP E Bs F Pt Ap ru M) (hT : T ≤ 2000) (h0 : M.2.1 9 0 = nI T) : f_X9_timeOfHearing n M = some (if nxt T E ≤ 2000 then nI (nxt T E) else -1) := by
  have hE : 1 ≤ E ∧ E ≤ 50 := ⟨hU.2.2.2.2.2.1, hU.2.2.2.2.2.2.1⟩
  have hx := nxt_gt (T := T) hE.1
  unfold f_X9_timeOfHearing
  rw [gz0, h0, hU.2.1.2.2.1, eoN (nI_ne0 (by omega) (by omega)), pk_div (by omega) (by omega) (by omega), nI_1, pk_mul, eLet]
  show (if nI (nxt T E) ≤ 2000 then some (nI (nxt T E)) else some (-1)) = _
  by_cases h : nxt T E ≤ 2000
  · rw [if_pos h, if_pos (show nI (nxt T E) ≤ (2000 : Int32) from nI_le (a := nxt T E) (b := 2000) h (by decide))]
  · rw [if_neg h, if_neg (show ¬ nI (nxt T E) ≤ (2000 : Int32) from nI_ge (a := 2000) (b := nxt T E) (by omega) (by omega))]
theorem c_toHearing {sv : Value} {th no fo : OS} (hU : Ru P NP E Bs F Pt Ap ru M) (hT : T ≤ 2000) (hn : 2500 < n) (hno : no.1 0 = nI T) (hx : nxt T E ≤ 2000) (hk : ∀ i, i ≤ nxt T E - T → ∃ r, cT n ru i fo = some r) : ∃ r, cT n ru (nxt T E - T) fo = some r ∧ f_X8_passToHearing n sv th ru no fo = some r.1 := by
  have hE : 1 ≤ E := hU.2.2.2.2.2.1
  have hg := nxt_gt (T := T) hE
  unfold f_X8_passToHearing f_X8_nextHearing
  rw [hno, c_next hU hT, ebnd, ebnd, if_pos hx, eLet, pk_sub (by omega)]
  refine c_iter (l := fun N (s : OS × Int32) i => l_X8_passToHearing_15 n sv th ru no (nI (nxt T E - T)) N s.1 i) (fin := fun r => r.1) (fun N s => ?_) (fun N s i hi => ?_) hk n (by omega)
  · show s_X8_passToHearing_15 n sv th ru no (nI (nxt T E - T)) _ s.1 (nI (nxt T E - T)) = _
    unfold s_X8_passToHearing_15
    rw [if_pos (Int32.le_refl _)]
  · show s_X8_passToHearing_15 n sv th ru no (nI (nxt T E - T)) _ s.1 (nI i) = _
    unfold s_X8_passToHearing_15
    rw [if_neg (nI_ge hi (by omega))]
    simp only [eLet, nI_1]
end GOES
