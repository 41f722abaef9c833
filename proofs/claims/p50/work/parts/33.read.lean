/-! what the looking methods answer, on both sides -/
theorem cntloop {l : Nat → Int32 → Int32 → Option Int32} (b : Nat → Bool) {K : Nat} (hstop : ∀ N s, l (N + 1) s (nI K) = some s) (hstep : ∀ N s i, i < K → l (N + 1) s (nI i) = l N (if b i then s + 1 else s) (nI (i + 1))) {N : Nat} (hN : K < N) : l N 0 0 = some (nI (fb_ct b K)) := by
  have h := loop_acc (l := l) (g := fun i s => if b i then s + 1 else s) (fin := fun s => s) hstop hstep hN (nI 0)
  rw [itr_cong (g2 := fun i s => s + bI (b i)) K (nI 0) (fun i s _ => by
    cases b i
    · show s = s + 0
      exact (Int32.add_zero s).symm
    · rfl), itr_cnt0] at h
  exact h
def su (f : Nat → Int32) : Nat → Int32
  | 0 => 0
  | k + 1 => su f k + f k
theorem su_nI {f : Nat → Int32} {g : Nat → Nat} : ∀ {K : Nat}, (∀ i, i < K → f i = nI (g i)) → su f K = nI (fb_sm g K)
  | 0, _ => rfl
  | K + 1, h => by
    show su f K + f K = _
    rw [su_nI (fun i hi => h i (Nat.lt_succ_of_lt hi)), h K (Nat.lt_succ_self K), nI_add, fb_sm_succ]
theorem su_cong {f g : Nat → Int32} : ∀ {K : Nat}, (∀ i, i < K → f i = g i) → su f K = su g K
  | 0, _ => rfl
  | K + 1, h => by
    show su f K + f K = su g K + g K
    rw [su_cong (fun i hi => h i (Nat.lt_succ_of_lt hi)), h K (Nat.lt_succ_self K)]
theorem itr_su (f : Nat → Int32) : ∀ k, itr (fun i s => s + f i) k 0 = su f k
  | 0 => rfl
  | k + 1 => by
    show itr (fun i s => s + f i) k 0 + f k = _
    rw [itr_su f k]
    rfl
theorem sumloop {l : Nat → Int32 → Int32 → Option Int32} (b : Nat → Bool) (f : Nat → Int32) {K : Nat} (hstop : ∀ N s, l (N + 1) s (nI K) = some s) (hstep : ∀ N s i, i < K → l (N + 1) s (nI i) = l N (if b i then s + f i else s) (nI (i + 1))) {N : Nat} (hN : K < N) : l N 0 0 = some (su (fun i => if b i then f i else 0) K) := by
  have h := loop_acc (l := l) (g := fun i s => if b i then s + f i else s) (fin := fun s => s) hstop hstep hN 0
  rw [itr_cong (g2 := fun i s => s + (if b i then f i else 0)) K 0 (fun i s _ => by
    cases b i
    · show s = s + 0
      exact (Int32.add_zero s).symm
    · rfl), itr_su] at h
  exact h
section READ
variable {P NP D K T LC CC FC E B F Pt Ap n : Nat} {c ru M : OS} {m : Nat → Int32}
/-! the model's -/
theorem m_pagesOf (hP : M.1 1 = nI P) (h64 : P ≤ 64) (hn : 100 < n) (v : Int32) : f_X9_pagesOf n M v = some (nI (pc (M.2.1 9) P v)) := by
  refine cntloop (l := l_X9_pagesOf_4 n M v) (fun k => decide (M.2.1 9 (538 + k) = v)) (K := P) (fun N s => ?_) (fun N s i hi => ?_) (by omega)
  · show s_X9_pagesOf_4 n M v _ s (nI P) = _
    unfold s_X9_pagesOf_4
    rw [hP, if_pos (Int32.le_refl _)]
  · show s_X9_pagesOf_4 n M v _ s (nI i) = _
    unfold s_X9_pagesOf_4
    rw [hP, if_neg (nI_ge hi (by omega)), ow_ix, g18 (by omega), eLet, nI_clamp (by omega)]
    by_cases hc : M.2.1 9 (538 + i) = v
    · rw [if_pos hc, decide_eq_true hc, eLet, eLet, nI_1]; rfl
    · rw [if_neg hc, decide_eq_false hc, eLet, nI_1]; rfl
theorem m_free (hP : M.1 1 = nI P) (h64 : P ≤ 64) (hn : 100 < n) : f_X9_free n M = some (nI (pc (M.2.1 9) P (-1))) := by
  unfold f_X9_free
  rw [m_pagesOf hP h64 hn, ebnd]
theorem pc_le (m : Nat → Int32) (P : Nat) (v : Int32) : pc m P v ≤ P := fb_ct_le _ _
theorem m_isBroken (hP : M.1 1 = nI P) (h64 : P ≤ 64) (hn : 100 < n) {l : Nat} (hl : l < 80) : f_X9_isBrokenLoan n M (nI l) = some (bI (bk (M.2.1 9) P l)) := by
  have hle := pc_le (M.2.1 9) P (nI l)
  unfold f_X9_isBrokenLoan
  rw [gz0, mL1 hl, ebnd]
  unfold bk
  by_cases h1 : M.2.1 9 (58 + 6 * l + 1) < M.2.1 9 0
  · rw [if_neg (i_nle.mpr h1), m_pagesOf hP h64 hn, ebnd, decide_eq_true h1, Bool.true_and]
    by_cases h2 : 0 < pc (M.2.1 9) P (nI l)
    · rw [decide_eq_true h2, if_neg (nI_nle h2 (by omega))]; rfl
    · rw [decide_eq_false h2, if_pos (nI_zle (k := pc (M.2.1 9) P (nI l)) (by omega))]; rfl
  · rw [if_pos (i_nlt.mp h1), decide_eq_false h1, Bool.false_and]; rfl
theorem m_brokenPages (hP : M.1 1 = nI P) (h64 : P ≤ 64) (hn : 100 < n) (hL : M.2.1 9 6 = nI LC) (hLC : LC ≤ 80) : f_X9_brokenPages n M = some (nI (bp (M.2.1 9) P LC)) := by
  have h := sumloop (l := l_X9_brokenPages_4 n M) (fun l => bk (M.2.1 9) P l) (fun l => nI (pc (M.2.1 9) P (nI l))) (K := LC) (N := n) (fun N s => ?_) (fun N s i hi => ?_) (by omega)
  · rw [su_nI (g := fun l => if bk (M.2.1 9) P l then pc (M.2.1 9) P (nI l) else 0) (fun i _ => by
      show (if bk (M.2.1 9) P i = true then nI (pc (M.2.1 9) P (nI i)) else 0) = nI (if bk (M.2.1 9) P i = true then pc (M.2.1 9) P (nI i) else 0)
      cases bk (M.2.1 9) P i <;> rfl)] at h
    exact h
  · show s_X9_brokenPages_4 n M _ s (nI LC) = _
    unfold s_X9_brokenPages_4
    rw [gz6, hL, if_pos (Int32.le_refl _)]
  · show s_X9_brokenPages_4 n M _ s (nI i) = _
    unfold s_X9_brokenPages_4
    rw [gz6, hL, if_neg (nI_ge hi (by omega)), m_isBroken hP h64 hn (by omega), ebnd, ifz]
    cases bk (M.2.1 9) P i
    · simp only [Bool.false_eq_true, if_false, eLet, nI_1]
    · simp only [if_true, m_pagesOf hP h64 hn, eLet, ebnd, ebnd2, ebnd3, ebnd4, nI_1]
theorem eb_lt (m : Nat → Int32) (P : Nat) : ∀ (l b : Nat), eb m P l = some b → b < l ∧ bk m P b = true
  | 0, _, h => by cases h
  | l + 1, b, h => by
    unfold eb at h
    by_cases hb : bk m P l = true
    · rw [if_pos hb] at h
      cases he : eb m P l with
      | none =>
        rw [he] at h
        cases h
        exact ⟨Nat.lt_succ_self _, hb⟩
      | some b2 =>
        have ih := eb_lt m P l b2 he
        rw [he] at h
        simp only at h
        split at h
        · cases h
          exact ⟨Nat.lt_succ_self _, hb⟩
        · cases h
          exact ⟨by omega, ih.2⟩
    · rw [if_neg hb] at h
      have ih := eb_lt m P l b h
      exact ⟨by omega, ih.2⟩
theorem m_earliest (hP : M.1 1 = nI P) (h64 : P ≤ 64) (hn : 100 < n) (hL : M.2.1 9 6 = nI LC) (hLC : LC ≤ 80) : f_X9_earliestBroken n M = some (toI (eb (M.2.1 9) P LC)) := by
  have h := loop_inv (l := l_X9_earliestBroken_4 n M) (fun i s => s = toI (eb (M.2.1 9) P i)) (Q := fun r => r = toI (eb (M.2.1 9) P LC)) (K := LC) (fun N s hs => ?_) (fun N s i hi hs => Or.inl ?_) 0 n (-1) (by omega) (by omega) rfl
  · obtain ⟨r, h1, h2⟩ := h
    rw [← h2]
    exact h1
  · refine ⟨s, ?_, hs⟩
    show s_X9_earliestBroken_4 n M _ s (nI LC) = _
    unfold s_X9_earliestBroken_4
    rw [gz6, hL, if_pos (Int32.le_refl _)]
  · subst hs
    refine ⟨toI (eb (M.2.1 9) P (i + 1)), rfl, ?_⟩
    show s_X9_earliestBroken_4 n M _ (toI (eb (M.2.1 9) P i)) (nI i) = l_X9_earliestBroken_4 n M N (toI (eb (M.2.1 9) P (i + 1))) (nI (i + 1))
    unfold s_X9_earliestBroken_4
    rw [gz6, hL, if_neg (nI_ge hi (by omega)), m_isBroken hP h64 hn (by omega), ebnd, ifz]
    have ee : eb (M.2.1 9) P (i + 1) = if bk (M.2.1 9) P i then (match eb (M.2.1 9) P i with
      | none => some i
      | some b => if (M.2.1 9) (58 + 6 * i + 1) < (M.2.1 9) (58 + 6 * b + 1) then some i else some b) else eb (M.2.1 9) P i := rfl
    rw [ee]
    by_cases hb : bk (M.2.1 9) P i = true
    · rw [if_pos hb, if_pos hb]
      cases he : eb (M.2.1 9) P i with
      | none =>
        simp only [toI, if_true, eLet, nI_1]
      | some b =>
        have hbl := (eb_lt _ _ _ _ he).1
        simp only [toI, eLet, nI_1]
        rw [if_neg (nI_m1 b (by omega)), mL1 (by omega), ebnd, mL1 (by omega), ebnd]
        by_cases hd : M.2.1 9 (58 + 6 * i + 1) < M.2.1 9 (58 + 6 * b + 1)
        · rw [if_neg (i_nle.mpr hd), if_pos hd]
        · rw [if_pos (i_nlt.mp hd), if_neg hd]
    · rw [if_neg hb, if_neg hb]
      simp only [eLet, nI_1]
theorem m_doesWait {q : Nat} (hq : q < 60) : f_X9_doesWait n M (nI q) = some (bI (wt (M.2.1 9) q)) := by
  unfold f_X9_doesWait
  rw [mC3 hq, ebnd]
  exact bI_if _
/-! the class's -/
theorem c_get0 (h : R0 P NP D K T LC CC FC c m) {l : Nat} (hl : l < LC) : LC ≤ 80 ∧ l < 80 := by
  have := h.L80
  omega
theorem c_isOpen (h : R0 P NP D K T LC CC FC c m) (h64 : P ≤ 64) {l : Nat} (hl : l < LC) : f_X2_isOpen n c (nI l) = some (bI (decide (0 < pc m P (nI l)))) := by
  have hle := pc_le m P (nI l)
  unfold f_X2_isOpen
  rw [gL1 (c_get0 h hl).2, ebnd, (h.1.2.2.2.2.1 l hl).2.1]
  by_cases h2 : 0 < pc m P (nI l)
  · rw [decide_eq_true h2, if_neg (nI_nle h2 (by omega))]; rfl
  · rw [decide_eq_false h2, if_pos (nI_zle (k := pc m P (nI l)) (by omega))]; rfl
theorem c_isBroken (h : R0 P NP D K T LC CC FC c m) (h64 : P ≤ 64) {l : Nat} (hl : l < LC) : f_X2_isBroken n c (nI l) = some (bI (bk m P l)) := by
  have hle := pc_le m P (nI l)
  have h80 := (c_get0 h hl).2
  unfold f_X2_isBroken
  rw [gL1 h80, ebnd, (h.1.2.2.2.2.1 l hl).2.1]
  unfold bk
  by_cases h2 : 0 < pc m P (nI l)
  · rw [decide_eq_true h2, if_neg (nI_nle h2 (by omega)), gL2 h80, ebnd, (h.1.2.2.2.2.1 l hl).2.2.1, h.1.1.1, Bool.and_true, bI_fi]
    simp only [i_nle]
  · rw [decide_eq_false h2, if_pos (nI_zle (k := pc m P (nI l)) (by omega)), Bool.and_false]; rfl
def ofp (m : Nat → Int32) (v : Int32) (l : Nat) : Bool := decide (v = -1) || decide (m (58 + 6 * l) = v)
theorem c_isLoanOf (h : R0 P NP D K T LC CC FC c m) {l : Nat} (hl : l < LC) (v : Int32) : f_X2_isLoanOf n c (nI l) v = some (bI (ofp m v l)) := by
  have h80 := (c_get0 h hl).2
  unfold f_X2_isLoanOf ofp
  by_cases h1 : v = -1
  · rw [if_pos h1, decide_eq_true h1, Bool.true_or]; rfl
  · rw [if_neg h1, decide_eq_false h1, Bool.false_or, gL0 h80, ebnd, (h.1.2.2.2.2.1 l hl).1]
    exact bI_if _
theorem c_openLoans (h : R0 P NP D K T LC CC FC c m) (h64 : P ≤ 64) (hn : 100 < n) (v : Int32) : f_X2_openLoans n c v = some (nI (fb_ct (fun l => decide (0 < pc m P (nI l)) && ofp m v l) LC)) := by
  have h80 := h.L80
  refine cntloop (l := l_X2_openLoans_4 n c v) (fun l => decide (0 < pc m P (nI l)) && ofp m v l) (K := LC) (fun N s => ?_) (fun N s i hi => ?_) (by omega)
  · show s_X2_openLoans_4 n c v _ s (nI LC) = _
    unfold s_X2_openLoans_4
    rw [h.loans, if_pos (Int32.le_refl _)]
  · show s_X2_openLoans_4 n c v _ s (nI i) = _
    unfold s_X2_openLoans_4
    rw [h.loans, if_neg (nI_ge hi (by omega)), c_isOpen h h64 hi, ebnd, ifz]
    cases decide (0 < pc m P (nI i))
    · simp only [Bool.false_eq_true, if_false, eLet, nI_1, Bool.false_and]
    · simp only [if_true, Bool.true_and]
      rw [c_isLoanOf h hi, ebnd, ifz]
      cases ofp m v i
      · simp only [Bool.false_eq_true, if_false, eLet, nI_1]
      · simp only [if_true, eLet, nI_1]
theorem c_brokenLoans (h : R0 P NP D K T LC CC FC c m) (h64 : P ≤ 64) (hn : 100 < n) (v : Int32) : f_X2_brokenLoans n c v = some (nI (fb_ct (fun l => bk m P l && ofp m v l) LC)) := by
  have h80 := h.L80
  refine cntloop (l := l_X2_brokenLoans_4 n c v) (fun l => bk m P l && ofp m v l) (K := LC) (fun N s => ?_) (fun N s i hi => ?_) (by omega)
  · show s_X2_brokenLoans_4 n c v _ s (nI LC) = _
    unfold s_X2_brokenLoans_4
    rw [h.loans, if_pos (Int32.le_refl _)]
  · show s_X2_brokenLoans_4 n c v _ s (nI i) = _
    unfold s_X2_brokenLoans_4
    rw [h.loans, if_neg (nI_ge hi (by omega)), c_isBroken h h64 hi, ebnd, ifz]
    cases bk m P i
    · simp only [Bool.false_eq_true, if_false, eLet, nI_1, Bool.false_and]
    · simp only [if_true, Bool.true_and]
      rw [c_isLoanOf h hi, ebnd, ifz]
      cases ofp m v i
      · simp only [Bool.false_eq_true, if_false, eLet, nI_1]
      · simp only [if_true, eLet, nI_1]
theorem c_heldPages (h : R0 P NP D K T LC CC FC c m) (hn : 100 < n) (v : Int32) : f_X2_heldPages n c v = some (nI (fb_sm (fun l => if ofp m v l then pc m P (nI l) else 0) LC)) := by
  have h80 := h.L80
  have h1 := sumloop (l := l_X2_heldPages_4 n c v) (fun l => ofp m v l) (fun l => nI (pc m P (nI l))) (K := LC) (N := n) (fun N s => ?_) (fun N s i hi => ?_) (by omega)
  · rw [su_nI (g := fun l => if ofp m v l then pc m P (nI l) else 0) (fun i _ => by
      show (if ofp m v i = true then nI (pc m P (nI i)) else 0) = nI (if ofp m v i = true then pc m P (nI i) else 0)
      cases ofp m v i <;> rfl)] at h1
    exact h1
  · show s_X2_heldPages_4 n c v _ s (nI LC) = _
    unfold s_X2_heldPages_4
    rw [h.loans, if_pos (Int32.le_refl _)]
  · show s_X2_heldPages_4 n c v _ s (nI i) = _
    unfold s_X2_heldPages_4
    rw [h.loans, if_neg (nI_ge hi (by omega)), c_isLoanOf h hi, ebnd, ifz]
    cases ofp m v i
    · simp only [Bool.false_eq_true, if_false, eLet, nI_1]
    · simp only [if_true]
      rw [gL1 (c_get0 h hi).2, ebnd, (h.1.2.2.2.2.1 i hi).2.1]
      simp only [eLet, nI_1]
theorem c_brokenPages (h : R0 P NP D K T LC CC FC c m) (h64 : P ≤ 64) (hn : 100 < n) : f_X2_brokenPages n c = some (nI (bp m P LC)) := by
  have h80 := h.L80
  have h1 := sumloop (l := l_X2_brokenPages_4 n c) (fun l => bk m P l) (fun l => nI (pc m P (nI l))) (K := LC) (N := n) (fun N s => ?_) (fun N s i hi => ?_) (by omega)
  · rw [su_nI (g := fun l => if bk m P l then pc m P (nI l) else 0) (fun i _ => by
      show (if bk m P i = true then nI (pc m P (nI i)) else 0) = nI (if bk m P i = true then pc m P (nI i) else 0)
      cases bk m P i <;> rfl)] at h1
    exact h1
  · show s_X2_brokenPages_4 n c _ s (nI LC) = _
    unfold s_X2_brokenPages_4
    rw [h.loans, if_pos (Int32.le_refl _)]
  · show s_X2_brokenPages_4 n c _ s (nI i) = _
    unfold s_X2_brokenPages_4
    rw [h.loans, if_neg (nI_ge hi (by omega)), c_isBroken h h64 hi, ebnd, ifz]
    cases bk m P i
    · simp only [Bool.false_eq_true, if_false, eLet, nI_1]
    · simp only [if_true]
      rw [gL1 (c_get0 h hi).2, ebnd, (h.1.2.2.2.2.1 i hi).2.1]
      simp only [eLet, nI_1]
/-- the class looks for the smallest due time below the time, the model among the broken loans -/
def ebd (m : Nat → Int32) : Option Nat → Int32
  | none => m 0
  | some b => m (58 + 6 * b + 1)
theorem c_earliest (h : R0 P NP D K T LC CC FC c m) (h64 : P ≤ 64) (hn : 100 < n) : f_X2_earliestBroken n c = some (toI (eb m P LC)) := by
  have h80 := h.L80
  unfold f_X2_earliestBroken
  rw [eLet]
  have hh := loop_inv (l := fun N (s : Int32 × Int32) i => l_X2_earliestBroken_9 n c N s.1 s.2 i) (fun i s => s.1 = toI (eb m P i) ∧ s.2 = ebd m (eb m P i)) (Q := fun r => r = toI (eb m P LC)) (K := LC) (fun N s hs => ?_) (fun N s i hi hs => Or.inl ?_) 0 n (-1, c.1 0) (by omega) (by omega) ⟨rfl, h.1.1.1⟩
  · obtain ⟨r, h1, h2⟩ := hh
    rw [← h2]
    exact h1
  · refine ⟨s.1, ?_, hs.1⟩
    show s_X2_earliestBroken_9 n c _ s.1 s.2 (nI LC) = _
    unfold s_X2_earliestBroken_9
    rw [h.loans, if_pos (Int32.le_refl _)]
  · obtain ⟨s1, s2⟩ := s
    obtain ⟨hs1, hs2⟩ := hs
    simp only at hs1 hs2
    subst hs1
    subst hs2
    have hle := pc_le m P (nI i)
    refine ⟨(toI (eb m P (i + 1)), ebd m (eb m P (i + 1))), ⟨rfl, rfl⟩, ?_⟩
    show s_X2_earliestBroken_9 n c _ (toI (eb m P i)) (ebd m (eb m P i)) (nI i) = l_X2_earliestBroken_9 n c N (toI (eb m P (i + 1))) (ebd m (eb m P (i + 1))) (nI (i + 1))
    unfold s_X2_earliestBroken_9
    have ee : eb m P (i + 1) = if bk m P i then (match eb m P i with
      | none => some i
      | some b => if m (58 + 6 * i + 1) < m (58 + 6 * b + 1) then some i else some b) else eb m P i := rfl
    rw [h.loans, if_neg (nI_ge hi (by omega)), gL2 (c_get0 h hi).2, ebnd, (h.1.2.2.2.2.1 i hi).2.2.1, gL1 (c_get0 h hi).2]
    simp only [ebnd, eLet, nI_1]
    rw [(h.1.2.2.2.2.1 i hi).2.1]
    have hlt : ∀ b, eb m P i = some b → m (58 + 6 * b + 1) < m 0 := fun b hb => by
      have h3 := (eb_lt _ _ _ _ hb).2
      unfold bk at h3
      exact of_decide_eq_true (Bool.and_eq_true_iff.mp h3).1
    by_cases hd : m (58 + 6 * i + 1) < ebd m (eb m P i)
    · rw [if_neg (i_nle.mpr hd)]
      by_cases hp : 0 < pc m P (nI i)
      · have hb : bk m P i = true := by
          unfold bk
          rw [decide_eq_true hp, Bool.and_true]
          apply decide_eq_true
          cases he : eb m P i with
          | none => rw [he] at hd; exact hd
          | some b =>
            rw [he] at hd
            have h4 := hlt b he
            rw [fa_lt] at *
            have h5 : (ebd m (some b)).toInt = (m (58 + 6 * b + 1)).toInt := rfl
            omega
        rw [if_neg (nI_nle hp (by omega)), ee, if_pos hb]
        cases he : eb m P i with
        | none => rfl
        | some b =>
          rw [he] at hd
          have hd2 : m (58 + 6 * i + 1) < m (58 + 6 * b + 1) := hd
          simp only [if_pos hd2]
          rfl
      · have hb : ¬ bk m P i = true := by
          unfold bk
          rw [decide_eq_false hp, Bool.and_false]
          decide
        rw [if_pos (nI_zle (k := pc m P (nI i)) (by omega)), ee, if_neg hb]
    · rw [if_pos (i_nlt.mp hd), ee]
      by_cases hb : bk m P i = true
      · rw [if_pos hb]
        cases he : eb m P i with
        | none =>
          rw [he] at hd
          unfold bk at hb
          exact absurd (of_decide_eq_true (Bool.and_eq_true_iff.mp hb).1) hd
        | some b =>
          rw [he] at hd
          have hd2 : ¬ m (58 + 6 * i + 1) < m (58 + 6 * b + 1) := hd
          simp only [if_neg hd2]
      · rw [if_neg hb]
theorem c_waits (h : R0 P NP D K T LC CC FC c m) {q : Nat} (hq : q < CC) : f_X2_waits n c (nI q) = some (bI (wt m q)) := by
  have h60 := h.C60
  unfold f_X2_waits
  rw [gC3 (by omega), ebnd, h.1.2.2.2.2.2.1 q hq 3 (by omega)]
  exact bI_if _
end READ
