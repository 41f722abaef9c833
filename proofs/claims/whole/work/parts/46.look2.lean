/-! pieces, rows, shortage, records, means -/
section LOOK2
variable {P NP D K T LC CC FC E Bs F Pt Ap n : Nat} {c ru M : OS} {m : Nat → Int32}
/-- a piece begins at page k -/
def pcb (w : Nat → Int32) (v : Int32) (k : Nat) : Bool := decide (w k = v) && !(decide (0 < k) && decide (w (k - 1) = v))
theorem pcb_P {w : Nat → Int32} {v : Int32} {Q : Nat} : ∀ {e : Nat}, (∀ k, Q ≤ k → k < Q + e → w k ≠ v) → fb_ct (pcb w v) (Q + e) = fb_ct (pcb w v) Q
  | 0, _ => rfl
  | e + 1, h => by
    rw [← Nat.add_assoc, fb_ct_succ, pcb_P (e := e) (fun k h1 h2 => h k h1 (by omega))]
    unfold pcb
    rw [decide_eq_false (h (Q + e) (by omega) (by omega)), Bool.false_and]
    rfl
theorem c_rowsOf (h : R0 P NP D K T LC CC FC c m) (hn : 100 < n) {l : Nat} (hl : l < 80) : f_X2_rowsOf n c (nI l) = some (nI (fb_ct (pcb (pgs m) (nI l)) P)) := by
  have h64 := h.P64
  have hP1 : fb_ct (pcb (c.2.1 10) (nI l)) 64 = fb_ct (pcb (pgs m) (nI l)) P := by
    have e1 := pcb_P (w := c.2.1 10) (v := nI l) (Q := P) (e := 64 - P) (fun k q1 q2 => by
      rw [h.1.2.1.2 k q1 (by omega)]
      exact fun z => nI_m2 l (by omega) z.symm)
    rw [show P + (64 - P) = 64 by omega] at e1
    rw [e1]
    refine fb_ct_cong fun k hk => ?_
    unfold pcb pgs
    rw [h.1.2.1.1 k hk]
    by_cases q : 0 < k
    · rw [h.1.2.1.1 (k - 1) (by omega)]
    · rw [decide_eq_false q, Bool.false_and, Bool.false_and]
  rw [← hP1]
  have hh := loop_inv (l := fun N (s : Int32 × Int32) i => l_X2_rowsOf_18 n c (nI l) (64 : Int32) N s.1 s.2 i) (fun i s => s.1 = nI (fb_ct (pcb (c.2.1 10) (nI l)) i) ∧ s.2 = bI (decide (0 < i) && decide (c.2.1 10 (i - 1) = nI l))) (Q := fun r => r = nI (fb_ct (pcb (c.2.1 10) (nI l)) 64)) (K := 64) (fun N s hs => ⟨s.1, ?_, hs.1⟩) (fun N s i hi hs => Or.inl ?_) 0 n (0, 0) (by omega) (by omega) ⟨rfl, rfl⟩
  · obtain ⟨r, h1, h2⟩ := hh
    rw [← h2]
    exact h1
  · show s_X2_rowsOf_18 n c (nI l) 64 _ s.1 s.2 (nI 64) = _
    unfold s_X2_rowsOf_18
    rw [if_pos (show (64 : Int32) ≤ nI 64 from Int32.le_refl _)]
  · obtain ⟨s1, s2⟩ := s
    obtain ⟨h1, h2⟩ := hs
    simp only at h1 h2
    subst h1
    subst h2
    have hu : l_X2_rowsOf_18 n c (nI l) 64 (N + 1) (nI (fb_ct (pcb (c.2.1 10) (nI l)) i)) (bI (decide (0 < i) && decide (c.2.1 10 (i - 1) = nI l))) (nI i) = s_X2_rowsOf_18 n c (nI l) 64 (l_X2_rowsOf_18 n c (nI l) 64 N) (nI (fb_ct (pcb (c.2.1 10) (nI l)) i)) (bI (decide (0 < i) && decide (c.2.1 10 (i - 1) = nI l))) (nI i) := rfl
    refine ⟨(nI (fb_ct (pcb (c.2.1 10) (nI l)) (i + 1)), bI (decide (0 < i + 1) && decide (c.2.1 10 (i + 1 - 1) = nI l))), ⟨rfl, rfl⟩, ?_⟩
    show l_X2_rowsOf_18 n c (nI l) 64 (N + 1) (nI (fb_ct (pcb (c.2.1 10) (nI l)) i)) (bI (decide (0 < i) && decide (c.2.1 10 (i - 1) = nI l))) (nI i) = l_X2_rowsOf_18 n c (nI l) 64 N (nI (fb_ct (pcb (c.2.1 10) (nI l)) (i + 1))) (bI (decide (0 < i + 1) && decide (c.2.1 10 (i + 1 - 1) = nI l))) (nI (i + 1))
    rw [hu]
    unfold s_X2_rowsOf_18 j_X2_rowsOf_45
    rw [if_neg (show ¬ (64 : Int32) ≤ nI i from nI_ge (a := i) (b := 64) hi (by decide)), egN hi (by decide), eLet, nI_clamp (by omega), fb_ct_succ, Nat.add_sub_cancel, decide_eq_true (show 0 < i + 1 by omega), Bool.true_and]
    have ep : pcb (c.2.1 10) (nI l) i = (decide (c.2.1 10 i = nI l) && !(decide (0 < i) && decide (c.2.1 10 (i - 1) = nI l))) := rfl
    by_cases q : c.2.1 10 i = nI l
    · rw [if_pos q, ep, decide_eq_true q, Bool.true_and, ifz]
      cases (decide (0 < i) && decide (c.2.1 10 (i - 1) = nI l))
      · simp only [Bool.false_eq_true, if_false, eLet, nI_1, if_pos q, Bool.not_false, if_true]
        rfl
      · simp only [if_true, eLet, nI_1, if_pos q, Bool.not_true, Bool.false_eq_true, if_false, Nat.add_zero]
        rfl
    · rw [if_neg q, ep, decide_eq_false q, Bool.false_and]
      simp only [Bool.false_eq_true, if_false, eLet, nI_1, if_neg q, Nat.add_zero]
      rfl
theorem m_pieces_loop (hP : M.1 1 = nI P) (h64 : P ≤ 64) (hn : 100 < n) (v : Int32) : l_X9_pieces_18 n v n M 0 0 = some (M, nI (fb_ct (pcb (pgs (M.2.1 9)) v) P)) := by
  have hh := loop_inv (l := fun N (s : Int32) i => l_X9_pieces_18 n v N M s i) (fun i s => s = nI (fb_ct (pcb (pgs (M.2.1 9)) v) i)) (Q := fun r => r = (M, nI (fb_ct (pcb (pgs (M.2.1 9)) v) P))) (K := P) (fun N s hs => ⟨(M, s), ?_, by rw [hs]⟩) (fun N s i hi hs => Or.inl ?_) 0 n 0 (by omega) (by omega) rfl
  · obtain ⟨r, h1, h2⟩ := hh
    rw [← h2]
    exact h1
  · show s_X9_pieces_18 n v _ M s (nI P) = _
    unfold s_X9_pieces_18
    rw [hP, if_pos (Int32.le_refl _)]
  · subst hs
    refine ⟨nI (fb_ct (pcb (pgs (M.2.1 9)) v) (i + 1)), rfl, ?_⟩
    show s_X9_pieces_18 n v (l_X9_pieces_18 n v N) M (nI (fb_ct (pcb (pgs (M.2.1 9)) v) i)) (nI i) = _
    unfold s_X9_pieces_18
    have ep : pcb (pgs (M.2.1 9)) v i = (decide (M.2.1 9 (538 + i) = v) && !(decide (0 < i) && decide (M.2.1 9 (538 + (i - 1)) = v))) := rfl
    rw [hP, if_neg (nI_ge hi (by omega)), ow_ix, rz (by omega), fb_ct_succ, ep]
    by_cases q : M.2.1 9 (538 + i) = v
    · rw [if_pos q, decide_eq_true q, Bool.true_and]
      by_cases q0 : i = 0
      · subst q0
        rw [if_pos (show nI 0 = 0 from rfl), decide_eq_false (by omega : ¬ 0 < 0), Bool.false_and]
        simp only [eLet, nI_1, Bool.not_false, if_true]
      · rw [if_neg (nI_ne0 (by omega) (by omega)), decide_eq_true (by omega : 0 < i), Bool.true_and, show nI (538 + i) - (1 : Int32) = nI (538 + (i - 1)) from by rw [show nI (538 + i) - (1 : Int32) = nI (538 + i - 1) from pk_sub (b := 1) (by omega), show 538 + i - 1 = 538 + (i - 1) by omega], rz (by omega)]
        by_cases q1 : M.2.1 9 (538 + (i - 1)) = v
        · rw [if_pos q1, decide_eq_true q1]
          simp only [eLet, nI_1, Bool.not_true, Bool.false_eq_true, if_false, Nat.add_zero]
        · rw [if_neg q1, decide_eq_false q1]
          simp only [eLet, nI_1, Bool.not_false, if_true]
    · rw [if_neg q, decide_eq_false q, Bool.false_and]
      simp only [eLet, nI_1, Bool.false_eq_true, if_false, Nat.add_zero]
/-- the longest row so far, and the row that ends here -/
def lrw (w : Nat → Int32) (v : Int32) : Nat → Nat × Nat
  | 0 => (0, 0)
  | k + 1 => (max (lrw w v k).1 (if w k = v then (lrw w v k).2 + 1 else 0), if w k = v then (lrw w v k).2 + 1 else 0)
theorem lrw_le (w : Nat → Int32) (v : Int32) : ∀ k, (lrw w v k).1 ≤ k ∧ (lrw w v k).2 ≤ k
  | 0 => ⟨Nat.le_refl _, Nat.le_refl _⟩
  | k + 1 => by
    have := lrw_le w v k
    show max (lrw w v k).1 (if w k = v then (lrw w v k).2 + 1 else 0) ≤ k + 1 ∧ (if w k = v then (lrw w v k).2 + 1 else 0) ≤ k + 1
    split <;> omega
theorem lrw_P {w : Nat → Int32} {v : Int32} {Q : Nat} : ∀ {e : Nat}, (∀ k, Q ≤ k → k < Q + e → w k ≠ v) → (lrw w v (Q + e)).1 = (lrw w v Q).1
  | 0, _ => rfl
  | e + 1, h => by
    show max (lrw w v (Q + e)).1 (if w (Q + e) = v then (lrw w v (Q + e)).2 + 1 else 0) = _
    rw [if_neg (h (Q + e) (by omega) (by omega)), lrw_P (e := e) (fun k h1 h2 => h k h1 (by omega))]
    exact Nat.max_eq_left (Nat.zero_le _)
theorem lrw_cong {w w2 : Nat → Int32} {v : Int32} : ∀ {k : Nat}, (∀ i, i < k → w i = w2 i) → lrw w v k = lrw w2 v k
  | 0, _ => rfl
  | k + 1, h => by
    unfold lrw
    rw [lrw_cong (k := k) (fun i hi => h i (by omega)), h k (by omega)]
theorem c_longestRow (h : R0 P NP D K T LC CC FC c m) (hn : 100 < n) : f_X2_longestRow n c (-1) = some (nI (lrw (pgs m) (-1) P).1) := by
  have h64 := h.P64
  have hP1 : (lrw (c.2.1 10) (-1) 64).1 = (lrw (pgs m) (-1) P).1 := by
    have e1 := lrw_P (w := c.2.1 10) (v := -1) (Q := P) (e := 64 - P) (fun k q1 q2 => by
      rw [h.1.2.1.2 k q1 (by omega)]
      decide)
    rw [show P + (64 - P) = 64 by omega] at e1
    rw [e1, lrw_cong fun k hk => h.1.2.1.1 k hk]
    rfl
  rw [← hP1]
  have hh := loop_inv (l := fun N (s : Int32 × Int32) i => l_X2_longestRow_18 n c (-1) (64 : Int32) N s.1 s.2 i) (fun i s => s = (nI (lrw (c.2.1 10) (-1) i).1, nI (lrw (c.2.1 10) (-1) i).2)) (Q := fun r => r = nI (lrw (c.2.1 10) (-1) 64).1) (K := 64) (fun N s hs => ⟨s.1, ?_, by rw [hs]⟩) (fun N s i hi hs => Or.inl ?_) 0 n (0, 0) (by omega) (by omega) rfl
  · obtain ⟨r, h1, h2⟩ := hh
    rw [← h2]
    exact h1
  · show s_X2_longestRow_18 n c (-1) 64 _ s.1 s.2 (nI 64) = _
    unfold s_X2_longestRow_18
    rw [if_pos (show (64 : Int32) ≤ nI 64 from Int32.le_refl _)]
  · subst hs
    have hl := lrw_le (c.2.1 10) (-1) i
    refine ⟨(nI (lrw (c.2.1 10) (-1) (i + 1)).1, nI (lrw (c.2.1 10) (-1) (i + 1)).2), rfl, ?_⟩
    show s_X2_longestRow_18 n c (-1) 64 (l_X2_longestRow_18 n c (-1) 64 N) (nI (lrw (c.2.1 10) (-1) i).1) (nI (lrw (c.2.1 10) (-1) i).2) (nI i) = l_X2_longestRow_18 n c (-1) 64 N (nI (max (lrw (c.2.1 10) (-1) i).1 (if c.2.1 10 i = -1 then (lrw (c.2.1 10) (-1) i).2 + 1 else 0))) (nI (if c.2.1 10 i = -1 then (lrw (c.2.1 10) (-1) i).2 + 1 else 0)) (nI (i + 1))
    unfold s_X2_longestRow_18 j_X2_longestRow_45
    rw [if_neg (show ¬ (64 : Int32) ≤ nI i from nI_ge (a := i) (b := 64) hi (by decide)), egN hi (by decide), eLet, nI_clamp (by omega)]
    by_cases q : c.2.1 10 i = -1
    · simp only [if_pos q, eLet, nI_1]
      rw [maxI (by omega) (by omega)]
    · simp only [if_neg q, eLet, nI_1]
      rw [show (if nI (lrw (c.2.1 10) (-1) i).1 < (0 : Int32) then (0 : Int32) else nI (lrw (c.2.1 10) (-1) i).1) = nI (max (lrw (c.2.1 10) (-1) i).1 0) from maxI (b := 0) (by omega) (by decide)]
      rfl
theorem m_longestFree (hP : M.1 1 = nI P) (h64 : P ≤ 64) (hn : 100 < n) : f_X9_longestFree n M = some (sI M 0 0, nI (lrw (pgs (M.2.1 9)) (-1) P).1) := by
  unfold f_X9_longestFree
  rw [eLet]
  have hh := loop_inv (l := fun N (s : Int32 × Int32) i => l_X9_longestFree_11 n N (sI M 0 0) s.1 s.2 i) (fun i s => s = (nI (lrw (pgs (M.2.1 9)) (-1) i).1, nI (lrw (pgs (M.2.1 9)) (-1) i).2)) (Q := fun r => r = (sI M 0 0, nI (lrw (pgs (M.2.1 9)) (-1) P).1)) (K := P) (fun N s hs => ⟨(sI M 0 0, s.1), ?_, by rw [hs]⟩) (fun N s i hi hs => Or.inl ?_) 0 n (0, 0) (by omega) (by omega) rfl
  · obtain ⟨r, h1, h2⟩ := hh
    rw [← h2]
    exact h1
  · show s_X9_longestFree_11 n _ (sI M 0 0) s.1 s.2 (nI P) = _
    unfold s_X9_longestFree_11
    rw [show (sI M 0 0).1 1 = nI P from hP, if_pos (Int32.le_refl _)]
  · subst hs
    have hl := lrw_le (pgs (M.2.1 9)) (-1) i
    refine ⟨(nI (lrw (pgs (M.2.1 9)) (-1) (i + 1)).1, nI (lrw (pgs (M.2.1 9)) (-1) (i + 1)).2), rfl, ?_⟩
    show s_X9_longestFree_11 n (l_X9_longestFree_11 n N) (sI M 0 0) (nI (lrw (pgs (M.2.1 9)) (-1) i).1) (nI (lrw (pgs (M.2.1 9)) (-1) i).2) (nI i) = l_X9_longestFree_11 n N (sI M 0 0) (nI (max (lrw (pgs (M.2.1 9)) (-1) i).1 (if M.2.1 9 (538 + i) = -1 then (lrw (pgs (M.2.1 9)) (-1) i).2 + 1 else 0))) (nI (if M.2.1 9 (538 + i) = -1 then (lrw (pgs (M.2.1 9)) (-1) i).2 + 1 else 0)) (nI (i + 1))
    unfold s_X9_longestFree_11 j_X9_longestFree_40
    rw [show (sI M 0 0).1 1 = nI P from hP, if_neg (nI_ge hi (by omega)), ow_ix, rz (by omega), show (sI M 0 0).2.1 9 = M.2.1 9 from rfl]
    by_cases q : M.2.1 9 (538 + i) = -1
    · simp only [if_pos q, nI_1, m_greater (n := n) (show (lrw (pgs (M.2.1 9)) (-1) i).1 < 2 ^ 31 by omega) (show (lrw (pgs (M.2.1 9)) (-1) i).2 + 1 < 2 ^ 31 by omega), ebnd, eLet]
    · simp only [if_neg q, show f_X9_greater n (nI (lrw (pgs (M.2.1 9)) (-1) i).1) (0 : Int32) = some (nI (max (lrw (pgs (M.2.1 9)) (-1) i).1 0)) from m_greater (b := 0) (by omega) (by decide), ebnd, eLet, nI_1]
      rfl
/-! shortage -/
def wpg (m : Nat → Int32) (CC : Nat) : Int32 := su (fun q => if wt m q then m (602 + 7 * q + 1) else 0) CC
theorem c_waitingPages (h : R0 P NP D K T LC CC FC c m) (hn : 100 < n) : f_X2_waitingPages n c = some (wpg m CC) := by
  have h60 := h.C60
  refine sumloop (l := l_X2_waitingPages_4 n c) (wt m) (fun q => m (602 + 7 * q + 1)) (K := CC) (fun N s => ?_) (fun N s i hi => ?_) (by omega)
  · show s_X2_waitingPages_4 n c _ s (nI CC) = _
    unfold s_X2_waitingPages_4
    rw [h.claims, if_pos (Int32.le_refl _)]
  · show s_X2_waitingPages_4 n c _ s (nI i) = _
    unfold s_X2_waitingPages_4
    rw [h.claims, if_neg (nI_ge hi (by omega)), c_waits h hi, ebnd, ifz]
    cases wt m i
    · simp only [eLet, nI_1, Bool.false_eq_true, if_false]
    · simp only [if_true]
      rw [gC1 (by omega), ebnd, h.1.2.2.2.2.2.1 i hi 1 (by omega)]
      simp only [eLet, nI_1]
theorem gr0 (x : Int32) : f_X9_greater n (0 : Int32) x = some (if (0 : Int32) < x then x else (0 : Int32)) := by
  unfold f_X9_greater
  by_cases h1 : (0 : Int32) < x
  · rw [if_pos h1, if_pos (Int32.le_of_lt h1)]
  · rw [if_neg h1]
    by_cases h2 : (0 : Int32) ≤ x
    · rw [if_pos h2]
      exact congrArg some (Int32.le_antisymm (Int32.not_lt.mp h1) h2)
    · rw [if_neg h2]
theorem m_shortage (h : R0 P NP D K T LC CC FC c (M.2.1 9)) (hP : M.1 1 = nI P) (hn : 100 < n) : f_X9_shortage n M = some (sI M 0 0, if (0 : Int32) < wpg (M.2.1 9) CC - nI (pc (M.2.1 9) P (-1)) then wpg (M.2.1 9) CC - nI (pc (M.2.1 9) P (-1)) else 0) := by
  have h60 := h.C60
  have h64 := h.P64
  unfold f_X9_shortage
  rw [eLet]
  have hh := loop_inv (l := fun N (s : Int32) i => l_X9_shortage_9 n N (sI M 0 0) s i) (fun i s => s = wpg (M.2.1 9) i) (Q := fun r => r = (sI M 0 0, if (0 : Int32) < wpg (M.2.1 9) CC - nI (pc (M.2.1 9) P (-1)) then wpg (M.2.1 9) CC - nI (pc (M.2.1 9) P (-1)) else 0)) (K := CC) (fun N s hs => ⟨_, ?_, rfl⟩) (fun N s i hi hs => Or.inl ?_) 0 n 0 (by omega) (by omega) rfl
  · obtain ⟨r, h1, h2⟩ := hh
    rw [← h2]
    exact h1
  · subst hs
    show s_X9_shortage_9 n _ (sI M 0 0) (wpg (M.2.1 9) CC) (nI CC) = _
    unfold s_X9_shortage_9 j_X9_shortage_43
    rw [gz7, show (sI M 0 0).2.1 9 7 = nI CC from h.mclaims, if_pos (Int32.le_refl _), m_free (M := sI M 0 0) (P := P) hP h64 hn, ebnd, gr0, ebnd]
    rfl
  · subst hs
    refine ⟨wpg (M.2.1 9) (i + 1), rfl, ?_⟩
    show s_X9_shortage_9 n (l_X9_shortage_9 n N) (sI M 0 0) (wpg (M.2.1 9) i) (nI i) = l_X9_shortage_9 n N (sI M 0 0) (wpg (M.2.1 9) i + (if wt (M.2.1 9) i then M.2.1 9 (602 + 7 * i + 1) else 0)) (nI (i + 1))
    unfold s_X9_shortage_9
    rw [gz7, show (sI M 0 0).2.1 9 7 = nI CC from h.mclaims, if_neg (nI_ge hi (by omega)), m_doesWait (by omega), ebnd, ifz, show (sI M 0 0).2.1 9 = M.2.1 9 from rfl]
    cases wt (M.2.1 9) i
    · simp only [eLet, nI_1, Bool.false_eq_true, if_false, Int32.add_zero]
    · simp only [if_true]
      rw [mC1 (by omega), ebnd, eLet, eLet, nI_1]
      rfl
/-! the worst record -/
def wrv (m : Nat → Int32) (o : Option Nat) : Int32 := match o with
  | none => (0 : Int32)
  | some b => m (10 + 6 * b)
def wr (m : Nat → Int32) : Nat → Option Nat
  | 0 => none
  | p + 1 => if wrv m (wr m p) < m (10 + 6 * p) then some p else wr m p
theorem wr_succ (m : Nat → Int32) (p : Nat) : wr m (p + 1) = if wrv m (wr m p) < m (10 + 6 * p) then some p else wr m p := rfl
theorem wr_lt (m : Nat → Int32) : ∀ (p b : Nat), wr m p = some b → b < p
  | 0, _, h => by cases h
  | p + 1, b, h => by
    rw [wr_succ] at h
    by_cases q : wrv m (wr m p) < m (10 + 6 * p)
    · rw [if_pos q] at h
      have := Option.some.inj h
      omega
    · rw [if_neg q] at h
      have := wr_lt m p b h
      omega
theorem c_worst (h : R0 P NP D K T LC CC FC c m) (hNP : NP ≤ 8) (hn : 100 < n) : f_X2_greatestRecord n c (nI NP) = some (toI (wr m NP)) := by
  have hh := loop_inv (l := fun N (s : Int32 × Int32) i => l_X2_greatestRecord_7 n c (nI NP) N s.1 s.2 i) (fun i s => s = (toI (wr m i), wrv m (wr m i))) (Q := fun r => r = toI (wr m NP)) (K := NP) (fun N s hs => ⟨s.1, ?_, by rw [hs]⟩) (fun N s i hi hs => Or.inl ?_) 0 n (-1, 0) (by omega) (by omega) rfl
  · obtain ⟨r, h1, h2⟩ := hh
    rw [← h2]
    exact h1
  · show s_X2_greatestRecord_7 n c (nI NP) _ s.1 s.2 (nI NP) = _
    unfold s_X2_greatestRecord_7
    rw [if_pos (Int32.le_refl _)]
  · subst hs
    refine ⟨(toI (wr m (i + 1)), wrv m (wr m (i + 1))), rfl, ?_⟩
    show s_X2_greatestRecord_7 n c (nI NP) (l_X2_greatestRecord_7 n c (nI NP) N) (toI (wr m i)) (wrv m (wr m i)) (nI i) = l_X2_greatestRecord_7 n c (nI NP) N (toI (wr m (i + 1))) (wrv m (wr m (i + 1))) (nI (i + 1))
    unfold s_X2_greatestRecord_7
    rw [if_neg (nI_ge hi (by omega)), gP0 (by omega), ebnd, (h.1.2.2.2.1 i (by omega)).1, wr_succ]
    by_cases q : wrv m (wr m i) < m (10 + 6 * i)
    · rw [if_neg (Int32.not_le.mpr q), if_pos q, ebnd, eLet, nI_1]
      rfl
    · rw [if_pos (Int32.not_lt.mp q), if_neg q, eLet, nI_1]
theorem m_worst (hU : Ru P NP E Bs F Pt Ap ru M) (hn : 100 < n) : f_X9_worst n M = some (sI M 0 0, toI (wr (M.2.1 9) NP)) := by
  have hNP : NP ≤ 8 := hU.2.2.2.2.1
  unfold f_X9_worst
  rw [eLet]
  have hh := loop_inv (l := fun N (s : Int32) i => l_X9_worst_9 n N (sI M 0 0) s i) (fun i s => s = toI (wr (M.2.1 9) i)) (Q := fun r => r = (sI M 0 0, toI (wr (M.2.1 9) NP))) (K := NP) (fun N s hs => ⟨(sI M 0 0, s), ?_, by rw [hs]⟩) (fun N s i hi hs => Or.inl ?_) 0 n (-1) (by omega) (by omega) rfl
  · obtain ⟨r, h1, h2⟩ := hh
    rw [← h2]
    exact h1
  · show s_X9_worst_9 n _ (sI M 0 0) s (nI NP) = _
    unfold s_X9_worst_9
    rw [show (sI M 0 0).1 2 = nI NP from hU.2.1.2.1, if_pos (Int32.le_refl _)]
  · subst hs
    refine ⟨toI (wr (M.2.1 9) (i + 1)), rfl, ?_⟩
    show s_X9_worst_9 n (l_X9_worst_9 n N) (sI M 0 0) (toI (wr (M.2.1 9) i)) (nI i) = _
    unfold s_X9_worst_9 j_X9_worst_38
    rw [show (sI M 0 0).1 2 = nI NP from hU.2.1.2.1, if_neg (nI_ge hi (by omega)), mP0 (by omega), ebnd, show (sI M 0 0).2.1 9 = M.2.1 9 from rfl, wr_succ]
    cases hw : wr (M.2.1 9) i with
    | none =>
      rw [if_pos (show toI none = -1 from rfl)]
      by_cases q : wrv (M.2.1 9) none < M.2.1 9 (10 + 6 * i)
      · rw [if_neg (show ¬ M.2.1 9 (10 + 6 * i) ≤ (0 : Int32) from Int32.not_le.mpr q), if_pos q, eLet, nI_1]
        rfl
      · rw [if_pos (show M.2.1 9 (10 + 6 * i) ≤ (0 : Int32) from Int32.not_lt.mp q), if_neg q, eLet, nI_1]
    | some b =>
      have hb := wr_lt _ _ _ hw
      rw [if_neg (show ¬ toI (some b) = -1 from nI_m1 b (by omega))]
      rw [show toI (some b) = nI b from rfl, mP0 (by omega), ebnd, show (sI M 0 0).2.1 9 = M.2.1 9 from rfl]
      by_cases q : wrv (M.2.1 9) (some b) < M.2.1 9 (10 + 6 * i)
      · rw [if_neg (show ¬ M.2.1 9 (10 + 6 * i) ≤ M.2.1 9 (10 + 6 * b) from Int32.not_le.mpr q), if_pos q, eLet, nI_1]
        rfl
      · rw [if_pos (show M.2.1 9 (10 + 6 * i) ≤ M.2.1 9 (10 + 6 * b) from Int32.not_lt.mp q), if_neg q, eLet, nI_1]
        rfl
/-! the means -/
def lts (m : Nat → Int32) (P LC : Nat) : Int32 := su (fun l => if bk m P l then m 0 - m (58 + 6 * l + 1) else 0) LC
theorem c_lateness (h : R0 P NP D K T LC CC FC c m) (hn : 100 < n) : f_X2_lateness n c = some (lts m P LC) := by
  have h80 := h.L80
  have h64 := h.P64
  refine sumloop (l := l_X2_lateness_4 n c) (fun l => bk m P l) (fun l => m 0 - m (58 + 6 * l + 1)) (K := LC) (fun N s => ?_) (fun N s i hi => ?_) (by omega)
  · show s_X2_lateness_4 n c _ s (nI LC) = _
    unfold s_X2_lateness_4
    rw [h.loans, if_pos (Int32.le_refl _)]
  · show s_X2_lateness_4 n c _ s (nI i) = _
    unfold s_X2_lateness_4
    rw [h.loans, if_neg (nI_ge hi (by omega)), c_isBroken h h64 hi, ebnd, ifz]
    cases bk m P i
    · simp only [eLet, nI_1, Bool.false_eq_true, if_false]
    · simp only [if_true]
      rw [gL2 (by omega), ebnd, (h.1.2.2.2.2.1 i hi).2.2.1, h.1.1.1]
      simp only [eLet, nI_1]
theorem m_meanLate_loop (h : R0 P NP D K T LC CC FC c (M.2.1 9)) (hP : M.1 1 = nI P) (hn : 100 < n) : f_X9_meanLate n M = j_X9_meanLate_59 n (sI M 0 0) (lts (M.2.1 9) P LC) (nI (nbk (M.2.1 9) P LC)) := by
  have h80 := h.L80
  have h64 := h.P64
  unfold f_X9_meanLate
  rw [eLet]
  have hh := loop_inv (l := fun N (s : Int32 × Int32) i => (some (l_X9_meanLate_11 n N (sI M 0 0) s.1 s.2 i) : Option (Option (OS × UInt64)))) (fun i s => s = (lts (M.2.1 9) P i, nI (nbk (M.2.1 9) P i))) (Q := fun r => r = j_X9_meanLate_59 n (sI M 0 0) (lts (M.2.1 9) P LC) (nI (nbk (M.2.1 9) P LC))) (K := LC) (fun N s hs => ⟨_, ?_, rfl⟩) (fun N s i hi hs => Or.inl ?_) 0 n (0, 0) (by omega) (by omega) rfl
  · obtain ⟨r, h1, h2⟩ := hh
    rw [← h2]
    exact Option.some.inj h1
  · subst hs
    show some (s_X9_meanLate_11 n _ (sI M 0 0) (lts (M.2.1 9) P LC) (nI (nbk (M.2.1 9) P LC)) (nI LC)) = _
    unfold s_X9_meanLate_11
    rw [gz6, show (sI M 0 0).2.1 9 6 = nI LC from h.mloans, if_pos (Int32.le_refl _)]
  · subst hs
    refine ⟨(lts (M.2.1 9) P (i + 1), nI (nbk (M.2.1 9) P (i + 1))), rfl, ?_⟩
    show some (s_X9_meanLate_11 n (l_X9_meanLate_11 n N) (sI M 0 0) (lts (M.2.1 9) P i) (nI (nbk (M.2.1 9) P i)) (nI i)) = some (l_X9_meanLate_11 n N (sI M 0 0) (lts (M.2.1 9) P i + (if bk (M.2.1 9) P i then M.2.1 9 0 - M.2.1 9 (58 + 6 * i + 1) else 0)) (nI (nbk (M.2.1 9) P i + (if bk (M.2.1 9) P i then 1 else 0))) (nI (i + 1)))
    unfold s_X9_meanLate_11
    rw [gz6, show (sI M 0 0).2.1 9 6 = nI LC from h.mloans, if_neg (nI_ge hi (by omega)), m_isBroken (M := sI M 0 0) (P := P) hP h64 hn (by omega), ebnd, ifz, show (sI M 0 0).2.1 9 = M.2.1 9 from rfl]
    cases bk (M.2.1 9) P i
    · simp only [eLet, nI_1, Bool.false_eq_true, if_false, Int32.add_zero, Nat.add_zero]
    · simp only [if_true]
      rw [gz0, mL1 (by omega), ebnd]
      simp only [eLet, nI_1]
      rw [show (sI M 0 0).2.1 9 = M.2.1 9 from rfl, Int32.sub_eq_add_neg, Int32.sub_eq_add_neg, Int32.add_assoc]
end LOOK2
/-! no quotient of numbers that aren't negative is a NaN -/
theorem en_le (c : Nat) (q : Int) : FP.Core.encode FP.Core.b64 (FP.Core.bound FP.Core.b64 false c q) ≤ 9218868437227405312 ∨ ¬ c < 9007199254740992 := by
  rcases Nat.lt_or_ge c 9007199254740992 with hc | hc
  · refine Or.inl ?_
    unfold FP.Core.bound
    have h1 : FP.Core.b64.qmax = 971 := by decide
    have h2 : FP.Core.b64.qmin = -1074 := by decide
    have h3 : FP.Core.b64.tails = 4503599627370496 := by decide
    have h4 : FP.Core.b64.exps = 2048 := by decide
    rw [h1]
    by_cases hq : q ≤ 971
    · rw [if_pos hq]
      unfold FP.Core.encode FP.Core.assemble
      rw [h2, h3, h4]
      show (if c < 4503599627370496 then (false.toNat * 2048 + 0) * 4503599627370496 + c else (false.toNat * 2048 + ((q - -1074).toNat + 1)) * 4503599627370496 + (c - 4503599627370496)) ≤ 9218868437227405312
      rw [show false.toNat = 0 from rfl]
      by_cases hc2 : c < 4503599627370496
      · rw [if_pos hc2]
        omega
      · rw [if_neg hc2]
        have h5 : (q - -1074).toNat ≤ 2045 := by omega
        omega
    · rw [if_neg hq]
      unfold FP.Core.encode FP.Core.assemble
      rw [h3, h4]
      show (0 * 2048 + (2048 - 1)) * 4503599627370496 + 0 ≤ _
      omega
  · exact Or.inr (Nat.not_lt.mpr hc)
theorem rr_le (num den : Nat) (e : Int) : FP.Core.encode FP.Core.b64 (FP.Core.roundRatio FP.Core.b64 false num den e) ≤ 9218868437227405312 := by
  have h3 : FP.Core.b64.tails = 4503599627370496 := by decide
  have hp : 2 ^ FP.Core.b64.p = 9007199254740992 := by decide
  unfold FP.Core.roundRatio
  by_cases h0 : num = 0
  · rw [if_pos h0]
    decide +kernel
  · rw [if_neg h0]
    unfold FP.Core.roundAt FP.Core.settle
    rw [hp]
    by_cases hc : FP.Core.nearest (FP.Core.unitsNum num e (FP.Core.quantum FP.Core.b64 num den e)) (FP.Core.unitsDen den e (FP.Core.quantum FP.Core.b64 num den e)) < 9007199254740992
    · rw [if_pos hc]
      rcases en_le _ _ with h | h
      · exact h
      · exact absurd hc h
    · rw [if_neg hc, h3]
      rcases en_le 4503599627370496 (FP.Core.quantum FP.Core.b64 num den e + 1) with h | h
      · exact h
      · exact absurd (by decide) h
theorem dec_le {x : Nat} (h : x ≤ 9218868437227405312) : FP.Core.decode FP.Core.b64 x = .inf false ∨ ∃ c q, FP.Core.decode FP.Core.b64 x = .fin false c q := by
  have h3 : FP.Core.b64.tails = 4503599627370496 := by decide
  have h4 : FP.Core.b64.exps = 2048 := by decide
  have hs : FP.Core.fieldS FP.Core.b64 x = false := by
    unfold FP.Core.fieldS
    rw [h3, h4]
    have : x / 4503599627370496 / 2048 % 2 = 0 := by omega
    rw [this]
    rfl
  unfold FP.Core.decode
  rw [hs, h4]
  by_cases he : FP.Core.fieldE FP.Core.b64 x = 2048 - 1
  · rw [if_pos he]
    have ht : FP.Core.fieldT FP.Core.b64 x = 0 := by
      unfold FP.Core.fieldE at he
      unfold FP.Core.fieldT
      rw [h3] at *
      rw [h4] at he
      omega
    rw [if_pos ht]
    exact Or.inl rfl
  · rw [if_neg he]
    by_cases h0 : FP.Core.fieldE FP.Core.b64 x = 0
    · rw [if_pos h0]
      exact Or.inr ⟨_, _, rfl⟩
    · rw [if_neg h0]
      exact Or.inr ⟨_, _, rfl⟩
def fin0 : FP.Core.Datum → Bool
  | .fin false c _ => decide (c ≠ 0)
  | _ => false
theorem div_fin0 : ∀ N : Fin 81, N.val ≠ 0 → fin0 (FP.Core.decode FP.Core.b64 (FP.Core.i2d (nI N.val)).toNat) = true := by decide +kernel
theorem from_le (S : Nat) : FP.Core.fromInt FP.Core.b64 (S : Int) ≤ 9218868437227405312 := by
  unfold FP.Core.fromInt FP.Core.ofInt FP.Core.round
  have h1 : decide ((S : Int) < 0) = false := decide_eq_false (by omega)
  rw [h1]
  exact rr_le _ _ _
theorem i2d_le {S : Nat} (h : S < 2 ^ 31) : (FP.Core.i2d (nI S)).toNat ≤ 9218868437227405312 := by
  unfold FP.Core.i2d
  rw [nI_toInt h]
  have h2 := from_le S
  rw [UInt64.toNat_ofNat']
  exact Nat.le_trans (Nat.mod_le _ _) h2
theorem noNaN64 {S N : Nat} (hS : S < 2 ^ 31) (hN : 1 ≤ N) (hN2 : N ≤ 80) {β : Type} (o : Option β) : nN64 (FP.ddiv (FP.i2d (nI S)) (FP.i2d (nI N))) o = o := by
  have hq : FP.Core.div FP.Core.b64 (FP.Core.i2d (nI S)).toNat (FP.Core.i2d (nI N)).toNat ≤ 9218868437227405312 := by
    unfold FP.Core.div
    have h1 := div_fin0 ⟨N, by omega⟩ (show N ≠ 0 by omega)
    have h2 := dec_le (i2d_le hS)
    simp only at h1
    cases hd : FP.Core.decode FP.Core.b64 (FP.Core.i2d (nI N)).toNat with
    | nan => rw [hd] at h1; cases h1
    | inf s => rw [hd] at h1; cases h1
    | fin s c q =>
      rw [hd] at h1
      cases s with
      | true => cases h1
      | false =>
        have hc : c ≠ 0 := of_decide_eq_true h1
        rcases h2 with h3 | ⟨c2, q2, h3⟩
        · rw [h3]
          show FP.Core.encode FP.Core.b64 (.inf (false != false)) ≤ _
          decide +kernel
        · rw [h3]
          unfold FP.Core.quotient
          show FP.Core.encode FP.Core.b64 (if c = 0 then (if c2 = 0 then FP.Core.Datum.nan else FP.Core.Datum.inf (false != false)) else FP.Core.roundRatio FP.Core.b64 (false != false) c2 c (q2 - q)) ≤ 9218868437227405312
          rw [if_neg hc]
          exact rr_le _ _ _
  have ht : (FP.ddiv (FP.i2d (nI S)) (FP.i2d (nI N))).toNat ≤ 9218868437227405312 := by
    show (UInt64.ofNat (FP.Core.div FP.Core.b64 (FP.Core.i2d (nI S)).toNat (FP.Core.i2d (nI N)).toNat)).toNat ≤ _
    rw [UInt64.toNat_ofNat']
    exact Nat.le_trans (Nat.mod_le _ _) hq
  unfold nN64
  refine if_pos ?_
  generalize FP.ddiv (FP.i2d (nI S)) (FP.i2d (nI N)) = y at ht
  rw [UInt64.le_iff_toNat_le, UInt64.toNat_and]
  exact Nat.le_trans Nat.and_le_left ht
theorem noNaN32 : ∀ a : Fin 61, ∀ b : Fin 121, b.val ≠ 0 → (FP.fdiv (FP.i2f (nI a.val)) (FP.i2f (nI b.val))) &&& 0x7fffffff ≤ 0x7f800000 := by decide +kernel
