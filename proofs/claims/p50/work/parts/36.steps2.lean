/-! more steps: pages taken back, a new loan, a new claim, a new fine, time, order, promises -/
section STEPS2
variable {P NP D K T LC CC FC n : Nat} {c M : OS} {m : Nat → Int32}
theorem R0.taken (h : R0 P NP D K T LC CC FC c m) {l : Nat} (hl : l < LC) (x y : Int32) : R0 P NP D K T LC CC FC (sI (sA c 12 (upd (c.2.1 12) (8 * l + 6) x)) 8 y) (upd (upd m (58 + 6 * l + 4) x) 5 y) := by
  have h80 := h.L80
  have h60 := h.C60
  have hP := h.P64
  obtain ⟨⟨hsc, how, hfr, hpr, hln, hcl, hfn, hst⟩, ⟨isc, iow, ipr, imt, iln, icl, ict, ifn⟩⟩ := h
  have ho : ∀ i, i ≠ 58 + 6 * l + 4 → i ≠ 5 → upd (upd m (58 + 6 * l + 4) x) 5 y i = m i := fun i h1 h2 => by rw [upd_n h2, upd_n h1]
  have hs4 : upd (upd m (58 + 6 * l + 4) x) 5 y (58 + 6 * l + 4) = x := by rw [upd_n (by omega), upd_s]
  have hs5 : upd (upd m (58 + 6 * l + 4) x) 5 y 5 = y := upd_s _ _ _
  generalize upd (upd m (58 + 6 * l + 4) x) 5 y = m' at ho hs4 hs5 ⊢
  have sm : ∀ {a b}, ((b ≤ 58 ∨ 538 ≤ a) ∧ 6 ≤ a) → Sm a b m m' := fun hb i h1 h2 => ho i (by omega) (by omega)
  refine ⟨⟨?_, how.sm hP rfl (sm (by omega)), hfr.sm hP rfl (sm (by omega)), hpr.sm rfl (sm (by omega)), ?_, hcl.sm h60 rfl (sm (by omega)), hfn.sm rfl (sm (by omega)), hst.sm rfl (sm (by omega))⟩, ⟨?_, iow.sm (sm (by omega)), ipr.sm (sm (by omega)), imt.sm h60 (sm (by omega)) (sm (by omega)), ?_, icl.sm h60 (sm (by omega)), ict.sm h60 (ho _ (by omega) (by omega)) (ho _ (by omega) (by omega)) (sm (by omega)), ifn.sm (sm (by omega))⟩⟩
  · obtain ⟨g1, g2, g3, g4, g5, g6⟩ := hsc
    exact ⟨g1.trans (ho 0 (by omega) (by omega)).symm, g2.trans (ho 1 (by omega) (by omega)).symm, g3.trans (ho 6 (by omega) (by omega)).symm, g4.trans (ho 7 (by omega) (by omega)).symm, g5.trans (ho 4 (by omega) (by omega)).symm, hs5.symm⟩
  · intro a ha
    obtain ⟨g1, g2, g3, g4, g5, g6, g7⟩ := hln a ha
    have hpc : pc m' P (nI a) = pc m P (nI a) := pc_sm (sm (by omega)) hP _
    have ou : ∀ j, j ≠ 6 → j < 8 → upd (c.2.1 12) (8 * l + 6) x (8 * a + j) = c.2.1 12 (8 * a + j) := fun j h1 h2 => upd_n (by omega)
    refine ⟨?_, ?_, ?_, ?_, ?_, ?_, ?_⟩
    · rw [ho _ (by omega) (by omega), ← g1]
      exact ou 0 (by omega) (by omega)
    · rw [hpc, ← g2]
      exact ou 1 (by omega) (by omega)
    · rw [ho _ (by omega) (by omega), ← g3]
      exact ou 2 (by omega) (by omega)
    · rw [ho _ (by omega) (by omega), ← g4]
      exact ou 3 (by omega) (by omega)
    · rw [ho _ (by omega) (by omega), ← g5]
      exact ou 4 (by omega) (by omega)
    · show upd (c.2.1 12) (8 * l + 6) x (8 * a + 6) = _
      by_cases e : a = l
      · subst e
        rw [upd_s, hs4]
      · rw [upd_n (by omega), ho _ (by omega) (by omega), g6]
    · rw [ho _ (by omega) (by omega), ← g7]
      exact ou 7 (by omega) (by omega)
  · obtain ⟨g1, g2, g3, g4, g5, g6, g7, g8, g9⟩ := isc
    exact ⟨(ho 0 (by omega) (by omega)).trans g1, g2, by rw [ho 1 (by omega) (by omega)]; exact g3, (ho 6 (by omega) (by omega)).trans g4, g5, (ho 7 (by omega) (by omega)).trans g6, g7, (ho 4 (by omega) (by omega)).trans g8, g9⟩
  · intro a ha
    rw [ho _ (by omega) (by omega), ho _ (by omega) (by omega)]
    exact iln a ha
/-- a promise renewed -/
theorem R0.renew (h : R0 P NP D K T LC CC FC c m) {l d : Nat} (hl : l < LC) (hd : d ≤ D) : R0 P NP D K T LC CC FC (sA c 12 (upd (c.2.1 12) (8 * l + 2) (nI d))) (upd m (58 + 6 * l + 1) (nI d)) := by
  have h80 := h.L80
  have h60 := h.C60
  have hP := h.P64
  obtain ⟨⟨hsc, how, hfr, hpr, hln, hcl, hfn, hst⟩, ⟨isc, iow, ipr, imt, iln, icl, ict, ifn⟩⟩ := h
  have sm : ∀ {a b}, (b ≤ 58 ∨ 538 ≤ a) → Sm a b m (upd m (58 + 6 * l + 1) (nI d)) := fun hb => upd_sm (by omega)
  have s0 := upd_lo (m := m) (k := 58 + 6 * l + 1) (x := nI d) (by omega)
  refine ⟨⟨hsc.sm (fun j _ _ _ _ => rfl) s0, how.sm hP rfl (sm (by omega)), hfr.sm hP rfl (sm (by omega)), hpr.sm rfl (sm (by omega)), ?_, hcl.sm h60 rfl (sm (by omega)), hfn.sm rfl (sm (by omega)), hst.sm rfl (sm (by omega))⟩, ⟨isc.sm s0, iow.sm (sm (by omega)), ipr.sm (sm (by omega)), imt.sm h60 (sm (by omega)) (sm (by omega)), ?_, icl.sm h60 (sm (by omega)), ict.sm h60 (upd_n (by omega)) (upd_n (by omega)) (sm (by omega)), ifn.sm (sm (by omega))⟩⟩
  · intro a ha
    obtain ⟨g1, g2, g3, g4, g5, g6, g7⟩ := hln a ha
    have hpc : pc (upd m (58 + 6 * l + 1) (nI d)) P (nI a) = pc m P (nI a) := pc_sm (sm (by omega)) hP _
    have ou : ∀ j, j ≠ 2 → j < 8 → upd (c.2.1 12) (8 * l + 2) (nI d) (8 * a + j) = c.2.1 12 (8 * a + j) := fun j h1 h2 => upd_n (by omega)
    refine ⟨?_, ?_, ?_, ?_, ?_, ?_, ?_⟩
    · rw [upd_n (by omega), ← g1]
      exact ou 0 (by omega) (by omega)
    · rw [hpc, ← g2]
      exact ou 1 (by omega) (by omega)
    · show upd (c.2.1 12) (8 * l + 2) (nI d) (8 * a + 2) = _
      by_cases e : a = l
      · subst e
        rw [upd_s, upd_s]
      · rw [upd_n (by omega), upd_n (by omega), g3]
    · rw [upd_n (by omega), ← g4]
      exact ou 3 (by omega) (by omega)
    · rw [upd_n (by omega), ← g5]
      exact ou 4 (by omega) (by omega)
    · rw [upd_n (by omega), ← g6]
      exact ou 6 (by omega) (by omega)
    · rw [upd_n (by omega), ← g7]
      exact ou 7 (by omega) (by omega)
  · intro a ha
    obtain ⟨g1, g2⟩ := iln a ha
    refine ⟨by rw [upd_n (by omega)]; exact g1, ?_⟩
    by_cases e : a = l
    · subst e
      rw [upd_s]
      exact ⟨d, hd, rfl⟩
    · rw [upd_n (by omega)]
      exact g2
/-- the scalars time and order -/
theorem R0.order (h : R0 P NP D K T LC CC FC c m) {o : Nat} (ho : o ≤ 2) : R0 P NP D K T LC CC FC (sI c 1 (nI o)) (upd m 1 (nI o)) := by
  have h80 := h.L80
  have h60 := h.C60
  have hP := h.P64
  obtain ⟨⟨hsc, how, hfr, hpr, hln, hcl, hfn, hst⟩, ⟨isc, iow, ipr, imt, iln, icl, ict, ifn⟩⟩ := h
  have sm : ∀ {a b}, 10 ≤ a → Sm a b m (upd m 1 (nI o)) := fun hb => upd_sm (by omega)
  refine ⟨⟨?_, how.sm hP rfl (sm (by omega)), hfr.sm hP rfl (sm (by omega)), hpr.sm rfl (sm (by omega)), hln.sm hP h80 rfl (sm (by omega)) (sm (by omega)), hcl.sm h60 rfl (sm (by omega)), hfn.sm rfl (sm (by omega)), hst.sm rfl (sm (by omega))⟩, ⟨?_, iow.sm (sm (by omega)), ipr.sm (sm (by omega)), imt.sm h60 (sm (by omega)) (sm (by omega)), iln.sm h80 (sm (by omega)), icl.sm h60 (sm (by omega)), ict.sm h60 (upd_n (by omega)) (upd_n (by omega)) (sm (by omega)), ifn.sm (sm (by omega))⟩⟩
  · obtain ⟨g1, g2, g3, g4, g5, g6⟩ := hsc
    exact ⟨g1, rfl, g3, g4, g5, g6⟩
  · obtain ⟨g1, g2, g3, g4, g5, g6, g7, g8, g9⟩ := isc
    exact ⟨g1, g2, ⟨o, ho, rfl⟩, g4, g5, g6, g7, g8, g9⟩
theorem R0.tick (h : R0 P NP D K T LC CC FC c m) (hT : T < 2000) : R0 P NP D K (T + 1) LC CC FC (sI c 0 (nI (T + 1))) (upd m 0 (nI (T + 1))) := by
  have h80 := h.L80
  have h60 := h.C60
  have hP := h.P64
  obtain ⟨⟨hsc, how, hfr, hpr, hln, hcl, hfn, hst⟩, ⟨isc, iow, ipr, imt, iln, icl, ict, ifn⟩⟩ := h
  have sm : ∀ {a b}, 10 ≤ a → Sm a b m (upd m 0 (nI (T + 1))) := fun hb => upd_sm (by omega)
  have hst' : RSt T (sI c 0 (nI (T + 1))) (upd m 0 (nI (T + 1))) := hst.sm rfl (sm (by omega))
  have ifn' : IFn NP T FC (upd m 0 (nI (T + 1))) := ifn.sm (sm (by omega))
  refine ⟨⟨?_, how.sm hP rfl (sm (by omega)), hfr.sm hP rfl (sm (by omega)), hpr.sm rfl (sm (by omega)), hln.sm hP h80 rfl (sm (by omega)) (sm (by omega)), hcl.sm h60 rfl (sm (by omega)), hfn.sm rfl (sm (by omega)), ?_⟩, ⟨?_, iow.sm (sm (by omega)), ipr.sm (sm (by omega)), imt.sm h60 (sm (by omega)) (sm (by omega)), iln.sm h80 (sm (by omega)), icl.sm h60 (sm (by omega)), ict.sm h60 (upd_n (by omega)) (upd_n (by omega)) (sm (by omega)), ?_⟩⟩
  · obtain ⟨g1, g2, g3, g4, g5, g6⟩ := hsc
    exact ⟨rfl, g2, g3, g4, g5, g6⟩
  · exact fun p hp => ⟨(hst' p hp).1, fun t ht h2 => (hst' p hp).2 t ht (by omega)⟩
  · obtain ⟨g1, g2, g3, g4, g5, g6, g7, g8, g9⟩ := isc
    exact ⟨rfl, by omega, g3, g4, g5, g6, g7, g8, g9⟩
  · intro r hr hf
    obtain ⟨k1, k2, ⟨b, e, k3, k4, k5⟩, k6⟩ := ifn' r hr hf
    exact ⟨k1, k2, ⟨b, e, k3, by omega, k5⟩, k6⟩
/-! a new claim -/
def askC (c : OS) (q : Nat) (p g t a : Int32) : OS := sA (sI c 4 (nI (q + 1))) 13 (upd (upd (upd (upd (upd (upd (upd (c.2.1 13) (7 * q) p) (7 * q + 1) g) (7 * q + 2) t) (7 * q + 3) 0) (7 * q + 4) 0) (7 * q + 5) (-1)) (7 * q + 6) a)
def askM (m : Nat → Int32) (q : Nat) (p g t a : Int32) : Nat → Int32 := upd (upd (upd (upd (upd (upd (upd (upd m (602 + 7 * q) p) (602 + 7 * q + 1) g) (602 + 7 * q + 2) t) (602 + 7 * q + 3) 0) (602 + 7 * q + 4) 0) (602 + 7 * q + 5) (-1)) (602 + 7 * q + 6) a) 7 (nI (q + 1))
theorem c_addClaim {q : Nat} (hq : q < 60) (h : c.1 4 = nI q) (p g t : Int32) : f_X2_addClaim n c p g t = some (askC c q p g t (c.1 0), nI q) := by
  unfold f_X2_addClaim
  simp only [eLet, h, nI_1]
  rw [sC0 hq, ebnd, sC1 hq, ebnd, sC2 hq, ebnd, sC3 hq, ebnd, sC4 hq, ebnd, sC5 hq, ebnd, sC6 hq, ebnd]
  simp only [sA_sA, sA_get]
  rfl
theorem m_asks {q : Nat} (hq : q < 60) (h : m 7 = nI q) (p g t : Int32) : f_X9_asks n 1846 m p g t = some (askM m q p g t (m 0), nI q) := by
  have ix : ∀ j, (602 : Int32) + (7 : Int32) * nI q + nI j = nI (602 + 7 * q + j) := fun j => ix2 602 7 q j
  unfold f_X9_asks
  rw [gz7, h, eLet, show (0 : Int32) = nI 0 from rfl, show (1 : Int32) = nI 1 from rfl, show (2 : Int32) = nI 2 from rfl, show (3 : Int32) = nI 3 from rfl, show (4 : Int32) = nI 4 from rfl, show (5 : Int32) = nI 5 from rfl, show (6 : Int32) = nI 6 from rfl, show (7 : Int32) = nI 7 from rfl] 
  have ix : ∀ j, (602 : Int32) + (nI 7) * nI q + nI j = nI (602 + 7 * q + j) := fun j => ix2 602 7 q j
  rw [ix 0, ix 1, ix 2, ix 3, ix 4, ix 5, ix 6, egN (by omega) (by decide), eLet, nI_clamp (by omega), egN (by omega) (by decide), eLet, nI_clamp (by omega), egN (by omega) (by decide), eLet, nI_clamp (by omega), egN (by omega) (by decide), eLet, nI_clamp (by omega), egN (by omega) (by decide), eLet, nI_clamp (by omega), egN (by omega) (by decide), eLet, nI_clamp (by omega), egN (by omega) (by decide), eLet, nI_clamp (by omega), egN (by omega) (by decide), eLet, nI_clamp (by omega), egN (by omega) (by decide), eLet, nI_clamp (by omega), nI_add]
  unfold askM
  rw [show upd (upd (upd (upd (upd (upd m (602 + 7 * q + 0) p) (602 + 7 * q + 1) g) (602 + 7 * q + 2) t) (602 + 7 * q + 3) (nI 0)) (602 + 7 * q + 4) (nI 0)) (602 + 7 * q + 5) (-nI 1) 0 = m 0 from by rw [upd_n (by omega), upd_n (by omega), upd_n (by omega), upd_n (by omega), upd_n (by omega), upd_n (by omega)]]
  rfl
theorem R0.ask (h : R0 P NP D K T LC CC FC c m) {p g t : Nat} (hC : CC < 60) (hp : p < NP) (hg : 1 ≤ g) (hg2 : g ≤ P) (ht : t ≤ 99) (a : Int32) : R0 P NP D K T LC (CC + 1) FC (askC c CC (nI p) (nI g) (nI t) a) (askM m CC (nI p) (nI g) (nI t) a) := by
  have h80 := h.L80
  have h60 := h.C60
  have hP := h.P64
  obtain ⟨⟨hsc, how, hfr, hpr, hln, hcl, hfn, hst⟩, ⟨isc, iow, ipr, imt, iln, icl, ict, ifn⟩⟩ := h
  have ho : ∀ i, (i < 602 + 7 * CC ∨ 602 + 7 * CC + 7 ≤ i) → i ≠ 7 → askM m CC (nI p) (nI g) (nI t) a i = m i := fun i h1 h2 => by
    unfold askM
    rw [upd_n h2, upd_n (by omega), upd_n (by omega), upd_n (by omega), upd_n (by omega), upd_n (by omega), upd_n (by omega), upd_n (by omega)]
  have e0 : askM m CC (nI p) (nI g) (nI t) a (602 + 7 * CC) = nI p := by
    unfold askM
    rw [upd_n (by omega), upd_n (by omega), upd_n (by omega), upd_n (by omega), upd_n (by omega), upd_n (by omega), upd_n (by omega), upd_s]
  have e1 : askM m CC (nI p) (nI g) (nI t) a (602 + 7 * CC + 1) = nI g := by
    unfold askM
    rw [upd_n (by omega), upd_n (by omega), upd_n (by omega), upd_n (by omega), upd_n (by omega), upd_n (by omega), upd_s]
  have e2 : askM m CC (nI p) (nI g) (nI t) a (602 + 7 * CC + 2) = nI t := by
    unfold askM
    rw [upd_n (by omega), upd_n (by omega), upd_n (by omega), upd_n (by omega), upd_n (by omega), upd_s]
  have e3 : askM m CC (nI p) (nI g) (nI t) a (602 + 7 * CC + 3) = 0 := by
    unfold askM
    rw [upd_n (by omega), upd_n (by omega), upd_n (by omega), upd_n (by omega), upd_s]
  have e4 : askM m CC (nI p) (nI g) (nI t) a (602 + 7 * CC + 4) = 0 := by
    unfold askM
    rw [upd_n (by omega), upd_n (by omega), upd_n (by omega), upd_s]
  have e5 : askM m CC (nI p) (nI g) (nI t) a (602 + 7 * CC + 5) = -1 := by
    unfold askM
    rw [upd_n (by omega), upd_n (by omega), upd_s]
  have e6 : askM m CC (nI p) (nI g) (nI t) a (602 + 7 * CC + 6) = a := by
    unfold askM
    rw [upd_n (by omega), upd_s]
  have e7 : askM m CC (nI p) (nI g) (nI t) a 7 = nI (CC + 1) := upd_s _ _ _
  generalize askM m CC (nI p) (nI g) (nI t) a = m' at ho e0 e1 e2 e3 e4 e5 e6 e7 ⊢
  have sm : ∀ {a b}, ((b ≤ 602 ∨ 1022 ≤ a) ∧ 8 ≤ a) → Sm a b m m' := fun hb i h1 h2 => ho i (by omega) (by omega)
  have st : ∀ v, v ≠ 0 → stc m' v (CC + 1) = stc m v CC := fun v hv => by
    unfold stc
    rw [fb_ct_succ, e3, decide_eq_false (fun z => hv z.symm), if_neg (by decide), Nat.add_zero]
    exact fb_ct_cong fun k hk => by rw [ho _ (by omega) (by omega)]
  have sp : ∀ p v, v ≠ 0 → stp m' p v (CC + 1) = stp m p v CC := fun p v hv => by
    unfold stp
    rw [fb_ct_succ, e3, decide_eq_false (fun z => hv z.symm), Bool.false_and, if_neg (by decide), Nat.add_zero]
    exact fb_ct_cong fun k hk => by rw [ho _ (by omega) (by omega), ho (602 + 7 * k) (by omega) (by omega)]
  refine ⟨⟨?_, how.sm hP rfl (sm (by omega)), hfr.sm hP rfl (sm (by omega)), hpr.sm rfl (sm (by omega)), hln.sm hP h80 rfl (sm (by omega)) (sm (by omega)), ?_, hfn.sm rfl (sm (by omega)), hst.sm rfl (sm (by omega))⟩, ⟨?_, iow.sm (sm (by omega)), ipr.sm (sm (by omega)), ?_, iln.sm h80 (sm (by omega)), ?_, ?_, ifn.sm (sm (by omega))⟩⟩
  · obtain ⟨g1, g2, g3, g4, g5, g6⟩ := hsc
    exact ⟨g1.trans (ho 0 (by omega) (by omega)).symm, g2.trans (ho 1 (by omega) (by omega)).symm, g3.trans (ho 6 (by omega) (by omega)).symm, e7.symm, g5.trans (ho 4 (by omega) (by omega)).symm, g6.trans (ho 5 (by omega) (by omega)).symm⟩
  · intro b hb j hj
    show upd (upd (upd (upd (upd (upd (upd (c.2.1 13) (7 * CC) (nI p)) (7 * CC + 1) (nI g)) (7 * CC + 2) (nI t)) (7 * CC + 3) 0) (7 * CC + 4) 0) (7 * CC + 5) (-1)) (7 * CC + 6) a (7 * b + j) = m' (602 + 7 * b + j)
    by_cases e : b = CC
    · subst e
      match j, hj with
      | 0, _ => rw [show m' (602 + 7 * b + 0) = nI p from e0, upd_n (by omega), upd_n (by omega), upd_n (by omega), upd_n (by omega), upd_n (by omega), upd_n (by omega)]; exact upd_s _ _ _
      | 1, _ => rw [e1, upd_n (by omega), upd_n (by omega), upd_n (by omega), upd_n (by omega), upd_n (by omega), upd_s]
      | 2, _ => rw [e2, upd_n (by omega), upd_n (by omega), upd_n (by omega), upd_n (by omega), upd_s]
      | 3, _ => rw [e3, upd_n (by omega), upd_n (by omega), upd_n (by omega), upd_s]
      | 4, _ => rw [e4, upd_n (by omega), upd_n (by omega), upd_s]
      | 5, _ => rw [e5, upd_n (by omega), upd_s]
      | 6, _ => rw [e6, upd_s]
    · rw [upd_n (by omega), upd_n (by omega), upd_n (by omega), upd_n (by omega), upd_n (by omega), upd_n (by omega), upd_n (by omega), ho _ (by omega) (by omega)]
      exact hcl b (by omega) j hj
  · obtain ⟨g1, g2, g3, g4, g5, g6, g7, g8, g9⟩ := isc
    exact ⟨(ho 0 (by omega) (by omega)).trans g1, g2, by rw [ho 1 (by omega) (by omega)]; exact g3, (ho 6 (by omega) (by omega)).trans g4, g5, e7, by omega, (ho 4 (by omega) (by omega)).trans g8, g9⟩
  · intro b hb
    rw [ho _ (by omega) (by omega), sp _ _ (by decide)]
    exact imt b hb
  · intro b hb
    by_cases e : b = CC
    · subst e
      rw [e0, e1, e2]
      exact ⟨⟨p, hp, rfl⟩, ⟨g, hg, hg2, rfl⟩, ⟨t, ht, rfl⟩⟩
    · rw [ho _ (by omega) (by omega), ho _ (by omega) (by omega), ho _ (by omega) (by omega)]
      exact icl b (by omega)
  · unfold ICt
    rw [ho _ (by omega) (by omega), ho _ (by omega) (by omega), st _ (by decide), st _ (by decide)]
    exact ict
/-! a new loan -/
def lendC (c : OS) (l : Nat) (p : Int32) (g : Nat) (d t cl : Int32) : OS := sI (sA (sA (sI c 3 (nI (l + 1))) 12 (upd (upd (upd (upd (upd (upd (upd (upd (c.2.1 12) (8 * l) p) (8 * l + 1) (nI g)) (8 * l + 2) d) (8 * l + 3) t) (8 * l + 4) cl) (8 * l + 5) 0) (8 * l + 6) 0) (8 * l + 7) (nI g))) 10 (lds (nI l) 64 0 g (c.2.1 10))) 2 (c.1 2 - nI g)
def lendM1 (m : Nat → Int32) (l : Nat) (p : Int32) (g : Nat) (d t cl : Int32) : Nat → Int32 := upd (upd (upd (upd (upd (upd (upd m (58 + 6 * l) p) (58 + 6 * l + 1) d) (58 + 6 * l + 2) t) (58 + 6 * l + 3) cl) (58 + 6 * l + 4) 0) (58 + 6 * l + 5) (nI g)) 6 (nI (l + 1))
def lendM (m : Nat → Int32) (P l : Nat) (p : Int32) (g : Nat) (d t cl : Int32) : Nat → Int32 := ovl (lendM1 m l p g d t cl) (lds (nI l) P 0 g (pgs m))
theorem c_lend {l g : Nat} (hl : l < 80) (hg : g ≤ 64) (hn : 100 < n) (h : c.1 3 = nI l) (p d cl : Int32) : f_X2_lend n c p (nI g) d cl = some (lendC c l p g d (c.1 0) cl, nI l) := by
  unfold f_X2_lend
  simp only [eLet, h, nI_1]
  rw [sL0 hl, ebnd, sL1 hl, ebnd, sL2 hl, ebnd, sL3 hl, ebnd, sL4 hl, ebnd, sL5 hl, ebnd, sL6 hl, ebnd, sL7 hl, ebnd]
  rw [show (0 : Int32) = nI 0 from rfl, c_lend_loop 64 0 g _ (by omega) hg (by omega)]
  unfold j_X2_lend_160
  simp only [eLet, sA_sA, sA_get]
  rfl
theorem lendM1_o {l g i : Nat} {p d t cl : Int32} (h : i < 58 + 6 * l ∨ 58 + 6 * l + 6 ≤ i) (h6 : i ≠ 6) : lendM1 m l p g d t cl i = m i := by
  unfold lendM1
  rw [upd_n h6, upd_n (by omega), upd_n (by omega), upd_n (by omega), upd_n (by omega), upd_n (by omega), upd_n (by omega)]
theorem pgs_lend {l g : Nat} {p d t cl : Int32} (hl : l < 80) : ∀ k, k < 64 → pgs (lendM1 m l p g d t cl) k = pgs m k := fun k hk => lendM1_o (by omega) (by omega)
theorem ovl_cong {u w w2 : Nat → Int32} (h : ∀ k, k < 64 → w k = w2 k) : ovl u w = ovl u w2 := by
  funext i
  unfold ovl
  split
  · exact h _ (by omega)
  · rfl
theorem m_lends {l g : Nat} (hl : l < 80) (h64 : P ≤ 64) (hg : g ≤ pc m P (-1)) (hn : 100 < n) (h : m 6 = nI l) (p d cl : Int32) : f_X9_lends n 1846 m p (nI g) d cl = some (lendM m P l p g d (m 0) cl) := by
  unfold f_X9_lends
  rw [gz6, h, eLet, show (0 : Int32) = nI 0 from rfl, show (1 : Int32) = nI 1 from rfl, show (2 : Int32) = nI 2 from rfl, show (3 : Int32) = nI 3 from rfl, show (4 : Int32) = nI 4 from rfl, show (5 : Int32) = nI 5 from rfl, show (6 : Int32) = nI 6 from rfl]
  have ix : ∀ j, (58 : Int32) + (nI 6) * nI l + nI j = nI (58 + 6 * l + j) := fun j => ix2 58 6 l j
  rw [ix 0, ix 1, ix 2, ix 3, ix 4, ix 5, egN (by omega) (by decide), eLet, nI_clamp (by omega), egN (by omega) (by decide), eLet, nI_clamp (by omega), egN (by omega) (by decide), eLet, nI_clamp (by omega), egN (by omega) (by decide), eLet, nI_clamp (by omega), egN (by omega) (by decide), eLet, nI_clamp (by omega), egN (by omega) (by decide), eLet, nI_clamp (by omega), egN (by omega) (by decide), eLet, nI_clamp (by omega), egN (by omega) (by decide), eLet, nI_clamp (by omega), nI_add]
  rw [show upd (upd m (58 + 6 * l + 0) p) (58 + 6 * l + 1) d 0 = m 0 from by rw [upd_n (by omega), upd_n (by omega)]]
  have hh := m_lend_loop (n := n) (N := n) (v := nI l) P 0 g (lendM1 m l p g d (m 0) cl) (by omega) (by
    have e : fre (pgs (lendM1 m l p g d (m 0) cl)) 0 P = pc m P (-1) := fb_ct_cong fun k hk => by
      rw [pgs_lend hl _ (by omega), Nat.zero_add]
      rfl
    rw [e]
    exact hg) (by omega)
  refine Eq.trans hh ?_
  unfold lendM
  exact congrArg some (ovl_cong fun k hk => by
    by_cases h2 : k < P
    · exact lds_cong (nI l) P 0 g _ _ (fun i hi => pgs_lend hl i (by omega)) k (by omega)
    · rw [lds_lo _ _ _ _ _ _ (by omega), lds_lo _ _ _ _ _ _ (by omega), pgs_lend hl k hk])
theorem pc_lds (hP : P ≤ 64) {l g : Nat} {p d t cl : Int32} (hl : l < 80) (hg : g ≤ pc m P (-1)) (x : Int32) : pc (lendM m P l p g d t cl) P x + (if x = -1 then g else 0) = pc m P x + (if x = nI l then g else 0) := by
  unfold lendM
  rw [pc_ovl hP, pc_pgs m P x]
  refine lds_ct (nI l) (nI_m1 l (by omega)) x P 0 g (pgs m) P (by omega) ?_
  have e : fre (pgs m) 0 P = pc m P (-1) := fb_ct_cong fun k hk => by
    rw [Nat.zero_add]
    rfl
  rw [e]
  exact hg
theorem lendM_o {l g i : Nat} {p d t cl : Int32} (hl : l < 80) (h : (i < 538 ∧ (i < 58 + 6 * l ∨ 58 + 6 * l + 6 ≤ i)) ∨ 602 ≤ i) (h6 : i ≠ 6) : lendM m P l p g d t cl i = m i := by
  unfold lendM
  rw [ovl_out (by omega), lendM1_o (by omega) h6]
theorem R0.lend (h : R0 P NP D K T LC CC FC c m) {p g d : Nat} {cl : Int32} (hL : LC < 80) (hp : p < NP) (hd : d ≤ D) (hg : g ≤ pc m P (-1)) : R0 P NP D (K + 1) T (LC + 1) CC FC (lendC c LC (nI p) g (nI d) (c.1 0) cl) (lendM m P LC (nI p) g (nI d) (m 0) cl) := by
  have h80 := h.L80
  have h60 := h.C60
  have hP := h.P64
  have hT0 := h.1.1.1
  obtain ⟨⟨hsc, how, hfr, hpr, hln, hcl, hfn, hst⟩, ⟨isc, iow, ipr, imt, iln, icl, ict, ifn⟩⟩ := h
  have hpx := fun x => pc_lds (m := m) (p := nI p) (d := nI d) (t := m 0) (cl := cl) hP hL hg x
  have hz : pc m P (nI LC) = 0 := fb_ct_zero.mpr fun k hk => by
    apply decide_eq_false
    intro e
    rcases iow.2 k hk with h1 | ⟨l1, h1, h2⟩
    · exact nI_m1 LC (by omega) (e.symm.trans h1)
    · have := nI_inj (by omega) (by omega) (e.symm.trans h2)
      omega
  have hpf : pc (lendM m P LC (nI p) g (nI d) (m 0) cl) P (-1) = pc m P (-1) - g := by
    have h1 := hpx (-1)
    rw [if_pos rfl, if_neg (fun z => nI_m1 LC (by omega) z.symm)] at h1
    omega
  have hpn : pc (lendM m P LC (nI p) g (nI d) (m 0) cl) P (nI LC) = g := by
    have h1 := hpx (nI LC)
    rw [if_neg (nI_m1 LC (by omega)), if_pos rfl] at h1
    omega
  have hpo : ∀ a, a < LC → pc (lendM m P LC (nI p) g (nI d) (m 0) cl) P (nI a) = pc m P (nI a) := fun a ha => by
    have h1 := hpx (nI a)
    rw [if_neg (nI_m1 a (by omega)), if_neg (fun z => by have := nI_inj (by omega) (by omega) z; omega)] at h1
    omega
  have ho : ∀ i, ((i < 538 ∧ (i < 58 + 6 * LC ∨ 58 + 6 * LC + 6 ≤ i)) ∨ 602 ≤ i) → i ≠ 6 → lendM m P LC (nI p) g (nI d) (m 0) cl i = m i := fun i h1 h2 => lendM_o hL h1 h2
  have hin : ∀ k, k < 64 → lendM m P LC (nI p) g (nI d) (m 0) cl (538 + k) = lds (nI LC) P 0 g (pgs m) k := fun k hk => ovl_in hk
  have hl1 : ∀ j, j < 6 → lendM m P LC (nI p) g (nI d) (m 0) cl (58 + 6 * LC + j) = lendM1 m LC (nI p) g (nI d) (m 0) cl (58 + 6 * LC + j) := fun j hj => ovl_out (by omega)
  have e6 : lendM m P LC (nI p) g (nI d) (m 0) cl 6 = nI (LC + 1) := by
    unfold lendM
    rw [ovl_out (by omega)]
    exact upd_s _ _ _
  have q0 : lendM m P LC (nI p) g (nI d) (m 0) cl (58 + 6 * LC) = nI p := by
    rw [← Nat.add_zero (58 + 6 * LC), hl1 0 (by omega)]
    unfold lendM1
    rw [upd_n (by omega), upd_n (by omega), upd_n (by omega), upd_n (by omega), upd_n (by omega), upd_n (by omega)]; exact upd_s _ _ _
  have q1 : lendM m P LC (nI p) g (nI d) (m 0) cl (58 + 6 * LC + 1) = nI d := by
    rw [hl1 1 (by omega)]
    unfold lendM1
    rw [upd_n (by omega), upd_n (by omega), upd_n (by omega), upd_n (by omega), upd_n (by omega), upd_s]
  have q2 : lendM m P LC (nI p) g (nI d) (m 0) cl (58 + 6 * LC + 2) = m 0 := by
    rw [hl1 2 (by omega)]
    unfold lendM1
    rw [upd_n (by omega), upd_n (by omega), upd_n (by omega), upd_n (by omega), upd_s]
  have q3 : lendM m P LC (nI p) g (nI d) (m 0) cl (58 + 6 * LC + 3) = cl := by
    rw [hl1 3 (by omega)]
    unfold lendM1
    rw [upd_n (by omega), upd_n (by omega), upd_n (by omega), upd_s]
  have q4 : lendM m P LC (nI p) g (nI d) (m 0) cl (58 + 6 * LC + 4) = 0 := by
    rw [hl1 4 (by omega)]
    unfold lendM1
    rw [upd_n (by omega), upd_n (by omega), upd_s]
  have q5 : lendM m P LC (nI p) g (nI d) (m 0) cl (58 + 6 * LC + 5) = nI g := by
    rw [hl1 5 (by omega)]
    unfold lendM1
    rw [upd_n (by omega), upd_s]
  generalize lendM m P LC (nI p) g (nI d) (m 0) cl = m' at ho hin hpf hpn hpo e6 q0 q1 q2 q3 q4 q5 ⊢
  have sm : ∀ {a b}, ((b ≤ 58 ∧ 7 ≤ a) ∨ 602 ≤ a) → Sm a b m m' := fun hb i h1 h2 => ho i (by omega) (by omega)
  refine ⟨⟨?_, ?_, ?_, hpr.sm rfl (sm (by omega)), ?_, hcl.sm h60 rfl (sm (by omega)), hfn.sm rfl (sm (by omega)), hst.sm rfl (sm (by omega))⟩, ⟨?_, ?_, ipr.sm (sm (by omega)), imt.sm h60 (sm (by omega)) (sm (by omega)), ?_, icl.sm h60 (sm (by omega)), ?_, ifn.sm (sm (by omega))⟩⟩
  · obtain ⟨g1, g2, g3, g4, g5, g6⟩ := hsc
    exact ⟨g1.trans (ho 0 (by omega) (by omega)).symm, g2.trans (ho 1 (by omega) (by omega)).symm, e6.symm, g4.trans (ho 7 (by omega) (by omega)).symm, g5.trans (ho 4 (by omega) (by omega)).symm, g6.trans (ho 5 (by omega) (by omega)).symm⟩
  · have e : lds (nI LC) 64 0 g (c.2.1 10) = lds (nI LC) P 0 g (c.2.1 10) := by
      have := lds_skip (nI LC) (64 - P) P 0 g (c.2.1 10) (fun i h1 h2 => by
        rw [how.2 i (by omega) (by omega)]
        decide)
      rwa [show P + (64 - P) = 64 by omega] at this
    refine ⟨fun k hk => ?_, fun k h1 h2 => ?_⟩
    · show lds (nI LC) 64 0 g (c.2.1 10) k = m' (538 + k)
      rw [e, hin k (by omega)]
      exact lds_cong (nI LC) P 0 g _ _ (fun i hi => how.1 i (by omega)) k (by omega)
    · show lds (nI LC) 64 0 g (c.2.1 10) k = -2
      rw [e, lds_lo _ _ _ _ _ _ (by omega)]
      exact how.2 k h1 h2
  · show c.1 2 - nI g = nI (pc m' P (-1))
    rw [hfr, pk_sub hg, hpf]
  · have t0 : ∀ i, (i < 8 * LC ∨ 8 * LC + 8 ≤ i) → (lendC c LC (nI p) g (nI d) (c.1 0) cl).2.1 12 i = c.2.1 12 i := fun i hi => by
      show upd (upd (upd (upd (upd (upd (upd (upd (c.2.1 12) (8 * LC) (nI p)) (8 * LC + 1) (nI g)) (8 * LC + 2) (nI d)) (8 * LC + 3) (c.1 0)) (8 * LC + 4) cl) (8 * LC + 5) 0) (8 * LC + 6) 0) (8 * LC + 7) (nI g) i = _
      rw [upd_n (by omega), upd_n (by omega), upd_n (by omega), upd_n (by omega), upd_n (by omega), upd_n (by omega), upd_n (by omega), upd_n (by omega)]
    intro a ha
    by_cases e : a = LC
    · subst e
      rw [q0, hpn, q1, q2, q3, q4, q5, ← hT0]
      show upd (upd (upd (upd (upd (upd (upd (upd (c.2.1 12) (8 * a) (nI p)) (8 * a + 1) (nI g)) (8 * a + 2) (nI d)) (8 * a + 3) (c.1 0)) (8 * a + 4) cl) (8 * a + 5) 0) (8 * a + 6) 0) (8 * a + 7) (nI g) (8 * a) = _ ∧ upd (upd (upd (upd (upd (upd (upd (upd (c.2.1 12) (8 * a) (nI p)) (8 * a + 1) (nI g)) (8 * a + 2) (nI d)) (8 * a + 3) (c.1 0)) (8 * a + 4) cl) (8 * a + 5) 0) (8 * a + 6) 0) (8 * a + 7) (nI g) (8 * a + 1) = _ ∧ upd (upd (upd (upd (upd (upd (upd (upd (c.2.1 12) (8 * a) (nI p)) (8 * a + 1) (nI g)) (8 * a + 2) (nI d)) (8 * a + 3) (c.1 0)) (8 * a + 4) cl) (8 * a + 5) 0) (8 * a + 6) 0) (8 * a + 7) (nI g) (8 * a + 2) = _ ∧ upd (upd (upd (upd (upd (upd (upd (upd (c.2.1 12) (8 * a) (nI p)) (8 * a + 1) (nI g)) (8 * a + 2) (nI d)) (8 * a + 3) (c.1 0)) (8 * a + 4) cl) (8 * a + 5) 0) (8 * a + 6) 0) (8 * a + 7) (nI g) (8 * a + 3) = _ ∧ upd (upd (upd (upd (upd (upd (upd (upd (c.2.1 12) (8 * a) (nI p)) (8 * a + 1) (nI g)) (8 * a + 2) (nI d)) (8 * a + 3) (c.1 0)) (8 * a + 4) cl) (8 * a + 5) 0) (8 * a + 6) 0) (8 * a + 7) (nI g) (8 * a + 4) = _ ∧ upd (upd (upd (upd (upd (upd (upd (upd (c.2.1 12) (8 * a) (nI p)) (8 * a + 1) (nI g)) (8 * a + 2) (nI d)) (8 * a + 3) (c.1 0)) (8 * a + 4) cl) (8 * a + 5) 0) (8 * a + 6) 0) (8 * a + 7) (nI g) (8 * a + 6) = _ ∧ upd (upd (upd (upd (upd (upd (upd (upd (c.2.1 12) (8 * a) (nI p)) (8 * a + 1) (nI g)) (8 * a + 2) (nI d)) (8 * a + 3) (c.1 0)) (8 * a + 4) cl) (8 * a + 5) 0) (8 * a + 6) 0) (8 * a + 7) (nI g) (8 * a + 7) = _
      refine ⟨?_, ?_, ?_, ?_, ?_, ?_, ?_⟩
      · rw [upd_n (by omega), upd_n (by omega), upd_n (by omega), upd_n (by omega), upd_n (by omega), upd_n (by omega), upd_n (by omega), upd_s]
      · rw [upd_n (by omega), upd_n (by omega), upd_n (by omega), upd_n (by omega), upd_n (by omega), upd_n (by omega), upd_s]
      · rw [upd_n (by omega), upd_n (by omega), upd_n (by omega), upd_n (by omega), upd_n (by omega), upd_s]
      · rw [upd_n (by omega), upd_n (by omega), upd_n (by omega), upd_n (by omega), upd_s]
      · rw [upd_n (by omega), upd_n (by omega), upd_n (by omega), upd_s]
      · rw [upd_n (by omega), upd_s]
      · rw [upd_s]
    · rw [t0 _ (by omega), t0 _ (by omega), t0 _ (by omega), t0 _ (by omega), t0 _ (by omega), t0 _ (by omega), t0 _ (by omega), hpo a (by omega), ho _ (by omega) (by omega), ho _ (by omega) (by omega), ho _ (by omega) (by omega), ho _ (by omega) (by omega), ho _ (by omega) (by omega), ho _ (by omega) (by omega)]
      exact hln a (by omega)
  · obtain ⟨g1, g2, g3, g4, g5, g6, g7, g8, g9⟩ := isc
    exact ⟨(ho 0 (by omega) (by omega)).trans g1, g2, by rw [ho 1 (by omega) (by omega)]; exact g3, e6, by omega, (ho 7 (by omega) (by omega)).trans g6, g7, (ho 4 (by omega) (by omega)).trans g8, g9⟩
  · refine ⟨hP, fun k hk => ?_⟩
    rw [hin k (by omega)]
    rcases lds_each (nI LC) P 0 g (pgs m) k with h1 | h1
    · rw [h1]
      rcases iow.2 k hk with h2 | ⟨l1, h2, h3⟩
      · exact Or.inl h2
      · exact Or.inr ⟨l1, by omega, h3⟩
    · exact Or.inr ⟨LC, by omega, h1.2⟩
  · intro a ha
    by_cases e : a = LC
    · subst e
      rw [q0, q1]
      exact ⟨⟨p, hp, rfl⟩, ⟨d, hd, rfl⟩⟩
    · rw [ho _ (by omega) (by omega), ho _ (by omega) (by omega)]
      exact iln a (by omega)
  · have hs : ∀ v, stc m' v CC = stc m v CC := fun v => stc_sm (sm (by omega)) h60 v
    unfold ICt
    rw [ho 8 (by omega) (by omega), ho 9 (by omega) (by omega), hs, hs]
    obtain ⟨g1, g2, g3⟩ := ict
    exact ⟨g1, g2, by omega⟩
end STEPS2
