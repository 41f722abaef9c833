/-! what the class answers, said of the row that stands beside its court -/
section P44_vb
variable {P NP D K T LC CC FC E Bs F Pt Ap n : Nat} {c ru M : OS} {m : Nat → Int32}
def vb (x : Int32) (k : Nat) : Bool := decide (0 ≤ x) && decide (x < nI k)
theorem vb_ok {x : Int32} {k : Nat} (hk : k < 2 ^ 31) (h : vb x k = true) : ∃ j, j < k ∧ x = nI j := by
  unfold vb at h
  have h1 := Bool.and_eq_true_iff.mp h
  rcases pk_ix x hk with q | q | q
  · exact absurd (of_decide_eq_true h1.1) (Int32.not_le.mpr q)
  · exact absurd (of_decide_eq_true h1.2) (Int32.not_lt.mpr q)
  · exact q
theorem vb_in {j k : Nat} (hj : j < k) (hk : k < 2 ^ 31) : vb (nI j) k = true := by
  unfold vb
  rw [decide_eq_true (nI_pos' (by omega)), decide_eq_true (nI_lt hj hk)]
  rfl
theorem need3 (v : Int32) (k : Nat) : (if v < 0 then some 1 else (if v < nI k then some 0 else some 1) : Option Nat) = some (if vb v k then 0 else 1) := by
  unfold vb
  by_cases h1 : v < 0
  · rw [if_pos h1, decide_eq_false (Int32.not_le.mpr h1)]
    rfl
  · rw [if_neg h1, decide_eq_true (Int32.not_lt.mp h1)]
    by_cases h2 : v < nI k
    · rw [if_pos h2, decide_eq_true h2]
      rfl
    · rw [if_neg h2, decide_eq_false h2]
      rfl
theorem c_needProcess {sv : Value} {th : OS} (hU : Ru P NP E Bs F Pt Ap ru M) (v : Int32) : f_X8_needProcess n sv th ru v = some (if vb v NP then 0 else 1) := by
  unfold f_X8_needProcess
  rw [hU.1.2.1]
  exact need3 v NP
theorem c_needLoan {sv : Value} {th : OS} (h : c.1 3 = nI LC) (v : Int32) : f_X8_needLoan n sv th c v = some (if vb v LC then 0 else 1) := by
  unfold f_X8_needLoan
  rw [h]
  exact need3 v LC
theorem c_needClaim {sv : Value} {th : OS} (h : c.1 4 = nI CC) (v : Int32) : f_X8_needClaim n sv th c v = some (if vb v CC then 0 else 1) := by
  unfold f_X8_needClaim
  rw [h]
  exact need3 v CC
def tkb (v : Int32) : Bool := decide ((1 : Int32) ≤ v) && decide (v ≤ (500 : Int32))
theorem tkb_ok {v : Int32} (h : tkb v = true) : ∃ j, 1 ≤ j ∧ j ≤ 500 ∧ v = nI j := by
  unfold tkb at h
  have h1 := Bool.and_eq_true_iff.mp h
  have h2 := of_decide_eq_true h1.1
  have h3 := of_decide_eq_true h1.2
  have e1 : (1 : Int32).toInt = 1 := by decide
  have e5 : (500 : Int32).toInt = 500 := by decide
  rw [fa_le] at h2 h3
  rcases pk_ix v (n := 501) (by omega) with q | q | ⟨j, q1, q2⟩
  · rw [fa_lt, show (0 : Int32).toInt = 0 from by decide] at q
    omega
  · rw [fa_le, nI_toInt (by omega)] at q
    omega
  · subst q2
    rw [nI_toInt (by omega)] at h2
    exact ⟨j, by omega, by omega, rfl⟩
theorem c_needTicks {sv : Value} {th : OS} (v : Int32) : f_X8_needTicks n sv th v = some (if tkb v then 0 else 2) := by
  unfold f_X8_needTicks tkb
  by_cases h1 : v < 1
  · rw [if_pos h1, decide_eq_false (Int32.not_le.mpr h1)]
    rfl
  · rw [if_neg h1, decide_eq_true (Int32.not_lt.mp h1)]
    by_cases h2 : v ≤ 500
    · rw [if_pos h2, decide_eq_true h2]
      rfl
    · rw [if_neg h2, decide_eq_false h2]
      rfl
end P44_vb
section P45_clm
variable {P NP D K T LC CC FC E Bs F Pt Ap n : Nat} {c ru M : OS} {m : Nat → Int32}
def clm (m : Nat → Int32) (p v : Int32) (q : Nat) : Bool := decide (m (602 + 7 * q + 3) = v) && (decide (p = -1) || decide (m (602 + 7 * q) = p))
theorem c_claimsThat (h : R0 P NP D K T LC CC FC c m) (hn : 100 < n) (p v : Int32) : f_X2_claimsThat n c p v = some (nI (fb_ct (clm m p v) CC)) := by
  have h60 := h.C60
  refine cntloop (l := l_X2_claimsThat_5 n c p v) (clm m p v) (K := CC) (fun N s => ?_) (fun N s i hi => ?_) (by omega)
  · show s_X2_claimsThat_5 n c p v _ s (nI CC) = _
    unfold s_X2_claimsThat_5
    rw [h.claims, if_pos (Int32.le_refl _)]
  · have e3 := h.1.2.2.2.2.2.1 i hi 3 (by omega)
    have e0 : c.2.1 13 (7 * i) = m (602 + 7 * i) := h.1.2.2.2.2.2.1 i hi 0 (by omega)
    show s_X2_claimsThat_5 n c p v _ s (nI i) = _
    unfold s_X2_claimsThat_5 clm
    rw [h.claims, if_neg (nI_ge hi (by omega)), gC3 (by omega), ebnd, e3]
    by_cases q1 : m (602 + 7 * i + 3) = v
    · rw [if_pos q1, decide_eq_true q1, Bool.true_and]
      by_cases q2 : p = -1
      · rw [if_pos q2, decide_eq_true q2, Bool.true_or]
        simp only [eLet, nI_1, if_true]
      · rw [if_neg q2, decide_eq_false q2, Bool.false_or, gC0 (by omega), ebnd, e0]
        by_cases q3 : m (602 + 7 * i) = p
        · rw [if_pos q3, decide_eq_true q3]
          simp only [eLet, nI_1, if_true]
        · rw [if_neg q3, decide_eq_false q3]
          simp only [eLet, nI_1, Bool.false_eq_true, if_false]
    · rw [if_neg q1, decide_eq_false q1, Bool.false_and]
      simp only [eLet, nI_1, Bool.false_eq_true, if_false]
theorem clm_all (v : Int32) : fb_ct (clm m (-1) v) CC = stc m v CC := fb_ct_cong fun q _ => by
  unfold clm
  rw [decide_eq_true (rfl : (-1 : Int32) = -1), Bool.true_or, Bool.and_true]
theorem clm_one {p : Nat} (hp : p < 8) (v : Int32) : fb_ct (clm m (nI p) v) CC = stp m (nI p) v CC := fb_ct_cong fun q _ => by
  unfold clm
  rw [decide_eq_false (nI_m1 p (by omega)), Bool.false_or]
theorem cl_w (h : R0 P NP D K T LC CC FC c m) {l k : Nat} (hl : l < 2 ^ 31) (hk : k < 64) : (c.2.1 10 k = nI l) ↔ (k < P ∧ m (538 + k) = nI l) := by
  obtain ⟨h1, h2⟩ := h.1.2.1
  by_cases q : k < P
  · rw [h1 k q]
    exact ⟨fun z => ⟨q, z⟩, fun z => z.2⟩
  · rw [h2 k (by omega) hk]
    exact ⟨fun z => absurd z.symm (nI_m2 l hl), fun z => absurd z.1 q⟩
def pcu (m : Nat → Int32) (l k : Nat) : Nat := fb_ct (fun i => decide (m (538 + i) = nI l)) k
theorem pcu_P (l : Nat) : pcu m l P = pc m P (nI l) := rfl
theorem c_pageAt_in (h : R0 P NP D K T LC CC FC c m) (hn : 100 < n) {l k : Nat} (hl : l < 80) (hk : k < P) (hw : m (538 + k) = nI l) : f_X2_pageAt n c (nI l) (nI (pcu m l k)) = some (nI k) := by
  have h64 := h.P64
  have hle : ∀ i, pcu m l i ≤ i := fun i => fb_ct_le _ _
  have hh := loop_inv (l := fun N (s : Int32) i => l_X2_pageAt_5 n c (nI l) (nI (pcu m l k)) N s i) (fun i s => i ≤ k ∧ s = nI (pcu m l i)) (Q := fun r => r = nI k) (K := 64) (fun N s hs => absurd hs.1 (by omega)) (fun N s i hi hs => ?_) 0 n 0 (by omega) (by omega) ⟨by omega, rfl⟩
  · obtain ⟨r, h1, h2⟩ := hh
    rw [← h2]
    exact h1
  · obtain ⟨h1, h2⟩ := hs
    have hki := hle i
    have hkk := hle k
    have hu : l_X2_pageAt_5 n c (nI l) (nI (pcu m l k)) (N + 1) s (nI i) = s_X2_pageAt_5 n c (nI l) (nI (pcu m l k)) (l_X2_pageAt_5 n c (nI l) (nI (pcu m l k)) N) s (nI i) := rfl
    have hsucc : pcu m l (i + 1) = pcu m l i + (if decide (m (538 + i) = nI l) then 1 else 0) := fb_ct_succ _ _
    have hc := cl_w h (l := l) (k := i) (by omega) (by omega)
    unfold s_X2_pageAt_5 at hu
    rw [if_neg (show ¬ (64 : Int32) ≤ nI i from nI_ge (a := i) (b := 64) hi (by decide)), egN hi (by decide), eLet, nI_clamp (by omega), h2] at hu
    by_cases q : c.2.1 10 i = nI l
    · rw [if_pos q] at hu
      have q2 := (hc.mp q).2
      by_cases q3 : i = k
      · subst q3
        rw [if_pos rfl] at hu
        exact Or.inr ⟨_, by rw [h2]; exact hu, rfl⟩
      · have hlt : pcu m l i < pcu m l k := by
          have := fb_ct_mono (fun i => decide (m (538 + i) = nI l)) (show i + 1 ≤ k by omega)
          rw [decide_eq_true q2] at hsucc
          simp only [if_true] at hsucc
          have h9 : pcu m l (i + 1) ≤ pcu m l k := this
          omega
        rw [if_neg (fun z => by have := nI_inj (by omega) (by omega) z; omega), eLet, eLet, nI_1, nI_1] at hu
        refine Or.inl ⟨nI (pcu m l i + 1), ⟨by omega, ?_⟩, by rw [h2]; exact hu⟩
        rw [hsucc, decide_eq_true q2]
        rfl
    · rw [if_neg q, eLet, nI_1] at hu
      have q2 : ¬ m (538 + i) = nI l := fun z => q (hc.mpr ⟨by omega, z⟩)
      have q3 : i ≠ k := fun z => q2 (by rw [z]; exact hw)
      refine Or.inl ⟨nI (pcu m l i), ⟨by omega, ?_⟩, by rw [h2]; exact hu⟩
      rw [hsucc, decide_eq_false q2]
      rfl
theorem c_pageAt_out (h : R0 P NP D K T LC CC FC c m) (hn : 100 < n) {l : Nat} {v : Int32} (hl : l < 80) (hv : vb v (pc m P (nI l)) = false) : f_X2_pageAt n c (nI l) v = some (-1) := by
  have h64 := h.P64
  have hle : ∀ i, pcu m l i ≤ i := fun i => fb_ct_le _ _
  have hpP := pc_le m P (nI l)
  have hh := loop_inv (l := fun N (s : Int32) i => l_X2_pageAt_5 n c (nI l) v N s i) (fun i s => s = nI (pcu m l (min i P))) (Q := fun r => r = (-1 : Int32)) (K := 64) (fun N s hs => ⟨-1, ?_, rfl⟩) (fun N s i hi hs => Or.inl ?_) 0 n 0 (by omega) (by omega) (by rw [Nat.zero_min]; rfl)
  · obtain ⟨r, h1, h2⟩ := hh
    rw [← h2]
    exact h1
  · show s_X2_pageAt_5 n c (nI l) v _ s (nI 64) = _
    unfold s_X2_pageAt_5
    rw [if_pos (show (64 : Int32) ≤ nI 64 from Int32.le_refl (64 : Int32))]
  · have hc := cl_w h (l := l) (k := i) (by omega) (by omega)
    have hsucc : pcu m l (i + 1) = pcu m l i + (if decide (m (538 + i) = nI l) then 1 else 0) := fb_ct_succ _ _
    have hki := hle i
    have hu : l_X2_pageAt_5 n c (nI l) v (N + 1) s (nI i) = s_X2_pageAt_5 n c (nI l) v (l_X2_pageAt_5 n c (nI l) v N) s (nI i) := rfl
    unfold s_X2_pageAt_5 at hu
    rw [if_neg (show ¬ (64 : Int32) ≤ nI i from nI_ge (a := i) (b := 64) hi (by decide)), egN hi (by decide), eLet, nI_clamp (by omega), hs] at hu
    by_cases q : c.2.1 10 i = nI l
    · rw [if_pos q] at hu
      obtain ⟨q1, q2⟩ := hc.mp q
      rw [Nat.min_eq_left (show i ≤ P by omega)] at hu hs
      have hlt : pcu m l i < pc m P (nI l) := by
        have := fb_ct_mono (fun i => decide (m (538 + i) = nI l)) (show i + 1 ≤ P by omega)
        rw [decide_eq_true q2] at hsucc
        simp only [if_true] at hsucc
        have h9 : pcu m l (i + 1) ≤ pc m P (nI l) := this
        omega
      rw [if_neg (fun z => by rw [← z, vb_in hlt (by omega)] at hv; cases hv), eLet, eLet, nI_1, nI_1] at hu
      refine ⟨nI (pcu m l i + 1), ?_, by rw [hs]; exact hu⟩
      rw [Nat.min_eq_left (show i + 1 ≤ P by omega), hsucc, decide_eq_true q2]
      rfl
    · rw [if_neg q, eLet, nI_1] at hu
      refine ⟨nI (pcu m l (min i P)), ?_, by rw [hs]; exact hu⟩
      by_cases q1 : i < P
      · have q2 : ¬ m (538 + i) = nI l := fun z => q (hc.mpr ⟨q1, z⟩)
        rw [Nat.min_eq_left (show i ≤ P by omega), Nat.min_eq_left (show i + 1 ≤ P by omega), hsucc, decide_eq_false q2]
        rfl
      · rw [Nat.min_eq_right (show P ≤ i by omega), Nat.min_eq_right (show P ≤ i + 1 by omega)]
end P45_clm
section P46_pcb
variable {P NP D K T LC CC FC E Bs F Pt Ap n : Nat} {c ru M : OS} {m : Nat → Int32}
def pcb (w : Nat → Int32) (v : Int32) (k : Nat) : Bool := decide (w k = v) && !(decide (0 < k) && decide (w (k - 1) = v))
theorem pcb_P {w : Nat → Int32} {v : Int32} {Q : Nat} : ∀ {e : Nat}, (∀ k, Q ≤ k → k < Q + e → w k ≠ v) → fb_ct (pcb w v) (Q + e) = fb_ct (pcb w v) Q
  | 0, _ => rfl
  | e + 1, h => by
    rw [← Nat.add_assoc, fb_ct_succ, pcb_P (e := e) (fun k h1 h2 => h k h1 (by omega))]
    unfold pcb
    rw [decide_eq_false (h (Q + e) (by omega) (by omega)), Bool.false_and]
    rfl
theorem c_rowsOf (h : R0 P NP D K T LC CC FC c m) (hn : 100 < n) {l : Nat} (hl : l < 80) : f_X2_rowsOf n c (nI l) = some (nI (fb_ct (pcb (pgs m) (nI l)) P)) := by
  have h64 := h.P64
  have hP1 : fb_ct (pcb (c.2.1 10) (nI l)) 64 = fb_ct (pcb (pgs m) (nI l)) P := by
    have e1 := pcb_P (w := c.2.1 10) (v := nI l) (Q := P) (e := 64 - P) (fun k q1 q2 => by
      rw [h.1.2.1.2 k q1 (by omega)]
      exact fun z => nI_m2 l (by omega) z.symm)
    rw [show P + (64 - P) = 64 by omega] at e1
    rw [e1]
    refine fb_ct_cong fun k hk => ?_
    unfold pcb pgs
    rw [h.1.2.1.1 k hk]
    by_cases q : 0 < k
    · rw [h.1.2.1.1 (k - 1) (by omega)]
    · rw [decide_eq_false q, Bool.false_and, Bool.false_and]
  rw [← hP1]
  have hh := loop_inv (l := fun N (s : Int32 × Int32) i => l_X2_rowsOf_18 n c (nI l) (64 : Int32) N s.1 s.2 i) (fun i s => s.1 = nI (fb_ct (pcb (c.2.1 10) (nI l)) i) ∧ s.2 = bI (decide (0 < i) && decide (c.2.1 10 (i - 1) = nI l))) (Q := fun r => r = nI (fb_ct (pcb (c.2.1 10) (nI l)) 64)) (K := 64) (fun N s hs => ⟨s.1, ?_, hs.1⟩) (fun N s i hi hs => Or.inl ?_) 0 n (0, 0) (by omega) (by omega) ⟨rfl, rfl⟩
  · obtain ⟨r, h1, h2⟩ := hh
    rw [← h2]
    exact h1
  · show s_X2_rowsOf_18 n c (nI l) 64 _ s.1 s.2 (nI 64) = _
    unfold s_X2_rowsOf_18
    rw [if_pos (show (64 : Int32) ≤ nI 64 from Int32.le_refl _)]
  · obtain ⟨s1, s2⟩ := s
    obtain ⟨h1, h2⟩ := hs
    simp only at h1 h2
    subst h1
    subst h2
    have hu : l_X2_rowsOf_18 n c (nI l) 64 (N + 1) (nI (fb_ct (pcb (c.2.1 10) (nI l)) i)) (bI (decide (0 < i) && decide (c.2.1 10 (i - 1) = nI l))) (nI i) = s_X2_rowsOf_18 n c (nI l) 64 (l_X2_rowsOf_18 n c (nI l) 64 N) (nI (fb_ct (pcb (c.2.1 10) (nI l)) i)) (bI (decide (0 < i) && decide (c.2.1 10 (i - 1) = nI l))) (nI i) := rfl
    refine ⟨(nI (fb_ct (pcb (c.2.1 10) (nI l)) (i + 1)), bI (decide (0 < i + 1) && decide (c.2.1 10 (i + 1 - 1) = nI l))), ⟨rfl, rfl⟩, ?_⟩
    show l_X2_rowsOf_18 n c (nI l) 64 (N + 1) (nI (fb_ct (pcb (c.2.1 10) (nI l)) i)) (bI (decide (0 < i) && decide (c.2.1 10 (i - 1) = nI l))) (nI i) = l_X2_rowsOf_18 n c (nI l) 64 N (nI (fb_ct (pcb (c.2.1 10) (nI l)) (i + 1))) (bI (decide (0 < i + 1) && decide (c.2.1 10 (i + 1 - 1) = nI l))) (nI (i + 1))
    rw [hu]
    unfold s_X2_rowsOf_18 j_X2_rowsOf_45
    rw [if_neg (show ¬ (64 : Int32) ≤ nI i from nI_ge (a := i) (b := 64) hi (by decide)), egN hi (by decide), eLet, nI_clamp (by omega), fb_ct_succ, Nat.add_sub_cancel, decide_eq_true (show 0 < i + 1 by omega), Bool.true_and]
    have ep : pcb (c.2.1 10) (nI l) i = (decide (c.2.1 10 i = nI l) && !(decide (0 < i) && decide (c.2.1 10 (i - 1) = nI l))) := rfl
    by_cases q : c.2.1 10 i = nI l
    · rw [if_pos q, ep, decide_eq_true q, Bool.true_and, ifz]
      cases (decide (0 < i) && decide (c.2.1 10 (i - 1) = nI l))
      · simp only [Bool.false_eq_true, if_false, eLet, nI_1, if_pos q, Bool.not_false, if_true]
        rfl
      · simp only [if_true, eLet, nI_1, if_pos q, Bool.not_true, Bool.false_eq_true, if_false, Nat.add_zero]
        rfl
    · rw [if_neg q, ep, decide_eq_false q, Bool.false_and]
      simp only [Bool.false_eq_true, if_false, eLet, nI_1, if_neg q, Nat.add_zero]
      rfl
end P46_pcb
section P47_nd3
variable {P NP D K T LC CC FC E Bs F Pt Ap n : Nat} {no ru M x : OS} {sv : Value} {p3 : Nat → Int64}
theorem nd3 {α : Type} (v : Int32) (k : Nat) (A B : α) : (if v < 0 then A else (if v < nI k then B else A)) = if vb v k then B else A := by
  unfold vb
  by_cases h1 : v < 0
  · rw [if_pos h1, decide_eq_false (Int32.not_le.mpr h1)]
    rfl
  · rw [if_neg h1, decide_eq_true (Int32.not_lt.mp h1)]
    by_cases h2 : v < nI k
    · rw [if_pos h2, decide_eq_true h2]
      rfl
    · rw [if_neg h2, decide_eq_false h2]
      rfl
theorem nd3e {α : Type} (v : Int32) (k : Nat) (hk : k < 2 ^ 30) (A B : α) : (if v < 0 then A else (if v ≤ nI k then B else A)) = if vb v (k + 1) then B else A := by
  have e : (v ≤ nI k) ↔ v < nI (k + 1) := by
    rw [fa_le, fa_lt, nI_toInt (by omega), nI_toInt (by omega)]
    omega
  rw [← nd3]
  by_cases h : v ≤ nI k
  · rw [if_pos h, if_pos (e.mp h)]
  · rw [if_neg h, if_neg (fun z => h (e.mpr z))]
theorem sw_in {v : Int32} {k : Nat} (hk : k < 2 ^ 30) : (v.toInt < 0 ∨ (k : Int) < v.toInt) ↔ vb v (k + 1) = false := by
  unfold vb
  rw [← Bool.not_eq_true, Bool.and_eq_true, decide_eq_true_eq, decide_eq_true_eq, fa_le, fa_lt, nI_toInt (by omega), show (0 : Int32).toInt = 0 from by decide]
  omega
theorem c_loanOf (h : R0 P NP D K T LC CC FC no (M.2.1 9)) {k : Nat} (hk : k < P) : f_X2_loanOf n no (nI k) = some (M.2.1 9 (538 + k)) := by
  have h64 := h.P64
  unfold f_X2_loanOf
  rw [if_neg (nI_pos (by omega)), if_neg (show ¬ (64 : Int32) ≤ nI k from nI_ge (a := k) (b := 64) (by omega) (by decide)), egN (by omega) (by decide), eLet, nI_clamp (by omega), h.1.2.1.1 k hk]
def lnv (m : Nat → Int32) (P l : Nat) : Nat → Int32
  | 0 => m (58 + 6 * l)
  | 1 => nI (pc m P (nI l))
  | 2 => m (58 + 6 * l + 1)
  | 3 => m (58 + 6 * l + 2)
  | 4 => m (58 + 6 * l + 3)
  | 5 => bI (bk m P l)
  | 6 => m (58 + 6 * l + 4)
  | _ => m (58 + 6 * l + 5)
theorem c_loanV (hR : R0 P NP D K T LC CC FC no (M.2.1 9)) {l j : Nat} (hlC : l < LC) (hj : j < 8) : (if nI j = (5 : Int32) then bnd (f_X2_isBroken n no (nI l)) (fun (r_3 : Int32) => if r_3 = 0 then some ((0 : Int32), 0) else some ((1 : Int32), 0)) else bnd (f_X6_get n (8 : Int32) 640 (no.2.1 12) (nI l) (nI j)) (fun (r_2 : Int32) => some (r_2, 0)) : Option (Int32 × Nat)) = some (lnv (M.2.1 9) P l j, 0) := by
  have h64 := hR.P64
  have hl : l < 80 := (c_get0 hR hlC).2
  obtain ⟨q0, q1, q2, q3, q4, q6, q7⟩ := hR.1.2.2.2.2.1 l hlC
  have hj2 : j = 0 ∨ j = 1 ∨ j = 2 ∨ j = 3 ∨ j = 4 ∨ j = 5 ∨ j = 6 ∨ j = 7 := by omega
  rcases hj2 with rfl | rfl | rfl | rfl | rfl | rfl | rfl | rfl
  · rw [show nI 0 = (0 : Int32) from rfl, if_neg (show ¬ (0 : Int32) = 5 from by decide), gL0 hl, ebnd, q0]; rfl
  · rw [show nI 1 = (1 : Int32) from rfl, if_neg (show ¬ (1 : Int32) = 5 from by decide), gL1 hl, ebnd, q1]; rfl
  · rw [show nI 2 = (2 : Int32) from rfl, if_neg (show ¬ (2 : Int32) = 5 from by decide), gL2 hl, ebnd, q2]; rfl
  · rw [show nI 3 = (3 : Int32) from rfl, if_neg (show ¬ (3 : Int32) = 5 from by decide), gL3 hl, ebnd, q3]; rfl
  · rw [show nI 4 = (4 : Int32) from rfl, if_neg (show ¬ (4 : Int32) = 5 from by decide), gL4 hl, ebnd, q4]; rfl
  · rw [show nI 5 = (5 : Int32) from rfl, if_pos (show (5 : Int32) = 5 from rfl), c_isBroken hR h64 hlC, ebnd, ifz]; cases hb : bk (M.2.1 9) P l <;> simp only [lnv, hb] <;> rfl
  · rw [show nI 6 = (6 : Int32) from rfl, if_neg (show ¬ (6 : Int32) = 5 from by decide), gL6 hl, ebnd, q6]; rfl
  · rw [show nI 7 = (7 : Int32) from rfl, if_neg (show ¬ (7 : Int32) = 5 from by decide), gL7 hl, ebnd, q7]; rfl
def prv (m : Nat → Int32) (P LC CC p : Nat) : Nat → Int32
  | 0 => m (10 + 6 * p)
  | 1 => m (10 + 6 * p + 1)
  | 2 => m (10 + 6 * p + 2)
  | 3 => nI (fb_sm (fun l => if decide (m (58 + 6 * l) = nI p) then pc m P (nI l) else 0) LC)
  | 4 => nI (fb_ct (fun l => decide (m (58 + 6 * l) = nI p) && (if false then bk m P l else decide (0 < pc m P (nI l)))) LC)
  | 5 => nI (fb_ct (fun l => decide (m (58 + 6 * l) = nI p) && (if true then bk m P l else decide (0 < pc m P (nI l)))) LC)
  | 6 => nI (stp m (nI p) 0 CC)
  | 7 => nI (stp m (nI p) 1 CC)
  | 8 => m (10 + 6 * p + 4)
  | _ => m (10 + 6 * p + 5)
theorem ofp_one {m : Nat → Int32} {p l : Nat} (hp : p < 8) : ofp m (nI p) l = decide (m (58 + 6 * l) = nI p) := by
  unfold ofp
  rw [decide_eq_false (nI_m1 p (by omega)), Bool.false_or]
theorem c_processV (hR : R0 P NP D K T LC CC FC no (M.2.1 9)) (hU : Ru P NP E Bs F Pt Ap ru M) (hn : 100 < n) {p j : Nat} (hpN : p < NP) (hj : j < 10) : f_X8_process n sv x ru no (nI p) (nI j) = some (prv (M.2.1 9) P LC CC p j, 0) := by
  have h64 := hR.P64
  have hNP : NP ≤ 8 := hU.2.2.2.2.1
  have hp : p < 8 := by omega
  obtain ⟨q0, q1, q2, q3, q4⟩ := hR.1.2.2.2.1 p hp
  have hsm : fb_sm (fun l => if ofp (M.2.1 9) (nI p) l then pc (M.2.1 9) P (nI l) else 0) LC = fb_sm (fun l => if decide (M.2.1 9 (58 + 6 * l) = nI p) then pc (M.2.1 9) P (nI l) else 0) LC := fb_sm_cong fun l _ => by rw [ofp_one hp]
  have hop : fb_ct (fun l => decide (0 < pc (M.2.1 9) P (nI l)) && ofp (M.2.1 9) (nI p) l) LC = fb_ct (fun l => decide (M.2.1 9 (58 + 6 * l) = nI p) && (if false then bk (M.2.1 9) P l else decide (0 < pc (M.2.1 9) P (nI l)))) LC := fb_ct_cong fun l _ => by rw [ofp_one hp, Bool.and_comm]; rfl
  have hbr : fb_ct (fun l => bk (M.2.1 9) P l && ofp (M.2.1 9) (nI p) l) LC = fb_ct (fun l => decide (M.2.1 9 (58 + 6 * l) = nI p) && (if true then bk (M.2.1 9) P l else decide (0 < pc (M.2.1 9) P (nI l)))) LC := fb_ct_cong fun l _ => by rw [ofp_one hp, Bool.and_comm]; rfl
  unfold f_X8_process
  rw [c_needProcess hU, vb_in hpN (by omega), if_pos rfl, ebnd, if_pos rfl]
  have hj2 : j = 0 ∨ j = 1 ∨ j = 2 ∨ j = 3 ∨ j = 4 ∨ j = 5 ∨ j = 6 ∨ j = 7 ∨ j = 8 ∨ j = 9 := by omega
  rcases hj2 with rfl | rfl | rfl | rfl | rfl | rfl | rfl | rfl | rfl | rfl
  · rw [show nI 0 = (0 : Int32) from rfl, if_neg (show ¬ ((0 : Int32).toInt < 0 ∨ 9 < (0 : Int32).toInt) from by decide), if_pos (show (0 : Int32) = 0 from rfl), gP0 hp, ebnd, q0]; rfl
  · rw [show nI 1 = (1 : Int32) from rfl, if_neg (show ¬ ((1 : Int32).toInt < 0 ∨ 9 < (1 : Int32).toInt) from by decide), if_neg (show ¬ (1 : Int32) = 0 from by decide), if_pos (show (1 : Int32) = 1 from rfl), gP1 hp, ebnd, q1]; rfl
  · rw [show nI 2 = (2 : Int32) from rfl, if_neg (show ¬ ((2 : Int32).toInt < 0 ∨ 9 < (2 : Int32).toInt) from by decide), if_neg (show ¬ (2 : Int32) = 0 from by decide), if_neg (show ¬ (2 : Int32) = 1 from by decide), if_pos (show (2 : Int32) = 2 from rfl), gP2 hp, ebnd, q2]; rfl
  · rw [show nI 3 = (3 : Int32) from rfl, if_neg (show ¬ ((3 : Int32).toInt < 0 ∨ 9 < (3 : Int32).toInt) from by decide), if_neg (show ¬ (3 : Int32) = 0 from by decide), if_neg (show ¬ (3 : Int32) = 1 from by decide), if_neg (show ¬ (3 : Int32) = 2 from by decide), if_pos (show (3 : Int32) = 3 from rfl), c_heldPages hR hn, ebnd, hsm]; rfl
  · rw [show nI 4 = (4 : Int32) from rfl, if_neg (show ¬ ((4 : Int32).toInt < 0 ∨ 9 < (4 : Int32).toInt) from by decide), if_neg (show ¬ (4 : Int32) = 0 from by decide), if_neg (show ¬ (4 : Int32) = 1 from by decide), if_neg (show ¬ (4 : Int32) = 2 from by decide), if_neg (show ¬ (4 : Int32) = 3 from by decide), if_pos (show (4 : Int32) = 4 from rfl), c_openLoans hR h64 hn, ebnd, hop]; rfl
  · rw [show nI 5 = (5 : Int32) from rfl, if_neg (show ¬ ((5 : Int32).toInt < 0 ∨ 9 < (5 : Int32).toInt) from by decide), if_neg (show ¬ (5 : Int32) = 0 from by decide), if_neg (show ¬ (5 : Int32) = 1 from by decide), if_neg (show ¬ (5 : Int32) = 2 from by decide), if_neg (show ¬ (5 : Int32) = 3 from by decide), if_neg (show ¬ (5 : Int32) = 4 from by decide), if_pos (show (5 : Int32) = 5 from rfl), c_brokenLoans hR h64 hn, ebnd, hbr]; rfl
  · rw [show nI 6 = (6 : Int32) from rfl, if_neg (show ¬ ((6 : Int32).toInt < 0 ∨ 9 < (6 : Int32).toInt) from by decide), if_neg (show ¬ (6 : Int32) = 0 from by decide), if_neg (show ¬ (6 : Int32) = 1 from by decide), if_neg (show ¬ (6 : Int32) = 2 from by decide), if_neg (show ¬ (6 : Int32) = 3 from by decide), if_neg (show ¬ (6 : Int32) = 4 from by decide), if_neg (show ¬ (6 : Int32) = 5 from by decide), if_pos (show (6 : Int32) = 6 from rfl), c_claimsThat hR hn, ebnd, clm_one hp]; rfl
  · rw [show nI 7 = (7 : Int32) from rfl, if_neg (show ¬ ((7 : Int32).toInt < 0 ∨ 9 < (7 : Int32).toInt) from by decide), if_neg (show ¬ (7 : Int32) = 0 from by decide), if_neg (show ¬ (7 : Int32) = 1 from by decide), if_neg (show ¬ (7 : Int32) = 2 from by decide), if_neg (show ¬ (7 : Int32) = 3 from by decide), if_neg (show ¬ (7 : Int32) = 4 from by decide), if_neg (show ¬ (7 : Int32) = 5 from by decide), if_neg (show ¬ (7 : Int32) = 6 from by decide), if_pos (show (7 : Int32) = 7 from rfl), c_claimsThat hR hn, ebnd, clm_one hp]; rfl
  · rw [show nI 8 = (8 : Int32) from rfl, if_neg (show ¬ ((8 : Int32).toInt < 0 ∨ 9 < (8 : Int32).toInt) from by decide), if_neg (show ¬ (8 : Int32) = 0 from by decide), if_neg (show ¬ (8 : Int32) = 1 from by decide), if_neg (show ¬ (8 : Int32) = 2 from by decide), if_neg (show ¬ (8 : Int32) = 3 from by decide), if_neg (show ¬ (8 : Int32) = 4 from by decide), if_neg (show ¬ (8 : Int32) = 5 from by decide), if_neg (show ¬ (8 : Int32) = 6 from by decide), if_neg (show ¬ (8 : Int32) = 7 from by decide), if_pos (show (8 : Int32) = 8 from rfl), gP3 hp, ebnd, q3]; rfl
  · rw [show nI 9 = (9 : Int32) from rfl, if_neg (show ¬ ((9 : Int32).toInt < 0 ∨ 9 < (9 : Int32).toInt) from by decide), if_neg (show ¬ (9 : Int32) = 0 from by decide), if_neg (show ¬ (9 : Int32) = 1 from by decide), if_neg (show ¬ (9 : Int32) = 2 from by decide), if_neg (show ¬ (9 : Int32) = 3 from by decide), if_neg (show ¬ (9 : Int32) = 4 from by decide), if_neg (show ¬ (9 : Int32) = 5 from by decide), if_neg (show ¬ (9 : Int32) = 6 from by decide), if_neg (show ¬ (9 : Int32) = 7 from by decide), if_neg (show ¬ (9 : Int32) = 8 from by decide), gP4 hp, ebnd, q4]; rfl
end P47_nd3
section P48_c_claimV
variable {P NP D K T LC CC FC E Bs F Pt Ap n : Nat} {no ru M x : OS} {sv : Value} {p3 : Nat → Int64}
theorem c_claimV (hR : R0 P NP D K T LC CC FC no (M.2.1 9)) {q j : Nat} (hq : q < CC) (hj : j < 7) : f_X6_get n (7 : Int32) 420 (no.2.1 13) (nI q) (nI j) = some (M.2.1 9 (602 + 7 * q + j)) := by
  have h60 := hR.C60
  have k := tget (n := n) (cc := 7) (z := 420) (v := q) (j := j) (t := no.2.1 13) (7 * q + j) (by omega) (by omega) (by decide)
  rw [hR.1.2.2.2.2.2.1 q hq j hj] at k
  exact k
end P48_c_claimV
section P55_v1
variable {P NP D D2 K T LC CC FC E Bs F Pt Ap n : Nat} {c x inp ou ru no rd M : OS} {pa : PS} {so : Option OS} {sv : Value} {p3 : Nat → Int64} {m : Nat → Int32}
def v1 (v : Int32) (k : Nat) : Bool := decide ((1 : Int32) ≤ v) && decide (v ≤ nI k)
theorem v1_ok {v : Int32} {k : Nat} (hk : k < 2 ^ 30) (h : v1 v k = true) : ∃ j, 1 ≤ j ∧ j ≤ k ∧ v = nI j := by
  unfold v1 at h
  have h1 := Bool.and_eq_true_iff.mp h
  have h2 := of_decide_eq_true h1.1
  have h3 := of_decide_eq_true h1.2
  rw [fa_le, show (1 : Int32).toInt = 1 from by decide] at h2
  rw [fa_le, nI_toInt (by omega)] at h3
  rcases pk_ix v (n := k + 1) (by omega) with q | q | ⟨j, q1, q2⟩
  · rw [fa_lt, show (0 : Int32).toInt = 0 from by decide] at q
    omega
  · rw [fa_le, nI_toInt (by omega)] at q
    omega
  · subst q2
    rw [nI_toInt (by omega)] at h2
    exact ⟨j, by omega, by omega, rfl⟩
theorem nd1 {α : Type} (v : Int32) (k : Nat) (A B : α) : (if v < 1 then A else (if v ≤ nI k then B else A)) = if v1 v k then B else A := by
  unfold v1
  by_cases h1 : v < 1
  · rw [if_pos h1, decide_eq_false (Int32.not_le.mpr h1)]
    rfl
  · rw [if_neg h1, decide_eq_true (Int32.not_lt.mp h1)]
    by_cases h2 : v ≤ nI k
    · rw [if_pos h2, decide_eq_true h2]
      rfl
    · rw [if_neg h2, decide_eq_false h2]
      rfl
theorem nd1l {α : Type} (v : Int32) (k : Nat) (A B : α) : (if v < 1 then A else (if nI k < v then A else B)) = if v1 v k then B else A := by
  rw [← nd1]
  by_cases h1 : v < 1
  · rw [if_pos h1, if_pos h1]
  · rw [if_neg h1, if_neg h1]
    by_cases h2 : v ≤ nI k
    · rw [if_pos h2, if_neg (Int32.not_lt.mpr h2)]
    · rw [if_neg h2, if_pos (Int32.not_le.mp h2)]
theorem RR.ask (h : RR P NP D T LC CC FC c m) {p g t : Nat} (hC : CC < 60) (hp : p < NP) (hg : 1 ≤ g) (hg2 : g ≤ P) (ht : t ≤ 99) (a : Int32) : RR P NP D T LC (CC + 1) FC (askC c CC (nI p) (nI g) (nI t) a) (askM m CC (nI p) (nI g) (nI t) a) := by
  obtain ⟨h1, h2, h3, h4⟩ := h
  have mo : ∀ i, i < 7 → askM m CC (nI p) (nI g) (nI t) a i = m i := fun i hi => by
    unfold askM
    rw [upd_n (by omega), upd_n (by omega), upd_n (by omega), upd_n (by omega), upd_n (by omega), upd_n (by omega), upd_n (by omega), upd_n (by omega)]
  refine ⟨h1.ask hC hp hg hg2 ht a, ⟨?_, ?_⟩, ?_, h4⟩
  · rw [mo 2 (by omega)]
    exact h2.1
  · rw [mo 3 (by omega)]
    exact h2.2
  · obtain ⟨B, b1, b2⟩ := h3
    exact ⟨B, b1, by rw [mo 3 (by omega)]; exact b2⟩
end P55_v1
section P56_RR_upd0
variable {P NP D D2 K T LC CC FC E Bs F Pt Ap n : Nat} {c x inp ou ru no rd M : OS} {pa : PS} {so : Option OS} {sv : Value} {p3 : Nat → Int64} {m : Nat → Int32}
theorem RR.upd0 {c' : OS} {m' : Nat → Int32} {D' LC' CC' FC' : Nat} (h : RR P NP D T LC CC FC c m) (h0 : R0 P NP D' 20 T LC' CC' FC' c' m') (e6 : c'.1 6 = c.1 6) (e7 : c'.1 7 = c.1 7) (e2 : m' 2 = m 2) (e3 : m' 3 = m 3) (hF : FC' = FC) : RR P NP D' T LC' CC' FC' c' m' := by
  obtain ⟨h1, h2, h3, h4⟩ := h
  refine ⟨h0, ⟨by rw [e6, e2]; exact h2.1, by rw [e7, e3]; exact h2.2⟩, ?_, by rw [hF]; exact h4⟩
  obtain ⟨B, b1, b2⟩ := h3
  exact ⟨B, b1, by rw [e3]; exact b2⟩
end P56_RR_upd0
section P53_RR_order
variable {P NP D K T LC CC FC E Bs F Pt Ap n : Nat} {c no fo ru M x : OS} {sv : Value} {p3 : Nat → Int64} {m : Nat → Int32}
theorem RR.order (h : RR P NP D T LC CC FC c m) {o : Nat} (ho : o ≤ 2) : RR P NP D T LC CC FC (sI c 1 (nI o)) (upd m 1 (nI o)) := by
  obtain ⟨h1, h2, h3, h4⟩ := h
  refine ⟨h1.order ho, ⟨?_, ?_⟩, ?_, h4⟩
  · rw [sI_o (by decide), upd_n (by decide)]
    exact h2.1
  · rw [sI_o (by decide), upd_n (by decide)]
    exact h2.2
  · obtain ⟨B, b1, b2⟩ := h3
    exact ⟨B, b1, by rw [upd_n (by decide)]; exact b2⟩
theorem RR.release (h : RR P NP D T LC CC FC c m) {l many : Nat} (hl : l < LC) (hm : many ≤ pc m P (nI l)) : RR P NP D T LC CC FC (relC c l many) (relM m P l many) := by
  obtain ⟨h1, h2, h3, h4⟩ := h
  refine ⟨h1.release hl hm, ⟨?_, ?_⟩, ?_, h4⟩
  · rw [relM_o (by omega)]
    exact h2.1
  · rw [relM_o (by omega)]
    exact h2.2
  · obtain ⟨B, b1, b2⟩ := h3
    exact ⟨B, b1, by rw [relM_o (by omega)]; exact b2⟩
end P53_RR_order
section Q50
variable {P NP D T LC CC FC E Bs F Pt Ap n : Nat} {no ru M x : OS} {sv : Value} {pa : PS}
theorem q_c2 (h : RR P NP D T LC CC FC no (M.2.1 9)) : f_X8_count n sv x ru no pa (2 : Int32) = some (nI T) := by
  unfold f_X8_count
  rw [if_neg (show ¬ ((2 : Int32).toInt < 0 ∨ 20 < (2 : Int32).toInt) from by decide), if_neg (show ¬ (2 : Int32) = 0 from by decide), if_neg (show ¬ (2 : Int32) = 1 from by decide), if_pos (show (2 : Int32) = 2 from rfl)]
  rw [h.1.time.2.1]
theorem q_c9 (h : RR P NP D T LC CC FC no (M.2.1 9)) : f_X8_count n sv x ru no pa (9 : Int32) = some (nI (pc (M.2.1 9) P (-1))) := by
  unfold f_X8_count
  rw [if_neg (show ¬ ((9 : Int32).toInt < 0 ∨ 20 < (9 : Int32).toInt) from by decide), if_neg (show ¬ (9 : Int32) = 0 from by decide), if_neg (show ¬ (9 : Int32) = 1 from by decide), if_neg (show ¬ (9 : Int32) = 2 from by decide), if_neg (show ¬ (9 : Int32) = 3 from by decide), if_neg (show ¬ (9 : Int32) = 4 from by decide), if_neg (show ¬ (9 : Int32) = 5 from by decide), if_neg (show ¬ (9 : Int32) = 6 from by decide), if_neg (show ¬ (9 : Int32) = 7 from by decide), if_neg (show ¬ (9 : Int32) = 8 from by decide), if_pos (show (9 : Int32) = 9 from rfl)]
  rw [h.1.1.2.2.1]
theorem q_c10 (h : RR P NP D T LC CC FC no (M.2.1 9)) : f_X8_count n sv x ru no pa (10 : Int32) = some (nI LC) := by
  unfold f_X8_count
  rw [if_neg (show ¬ ((10 : Int32).toInt < 0 ∨ 20 < (10 : Int32).toInt) from by decide), if_neg (show ¬ (10 : Int32) = 0 from by decide), if_neg (show ¬ (10 : Int32) = 1 from by decide), if_neg (show ¬ (10 : Int32) = 2 from by decide), if_neg (show ¬ (10 : Int32) = 3 from by decide), if_neg (show ¬ (10 : Int32) = 4 from by decide), if_neg (show ¬ (10 : Int32) = 5 from by decide), if_neg (show ¬ (10 : Int32) = 6 from by decide), if_neg (show ¬ (10 : Int32) = 7 from by decide), if_neg (show ¬ (10 : Int32) = 8 from by decide), if_neg (show ¬ (10 : Int32) = 9 from by decide), if_pos (show (10 : Int32) = 10 from rfl)]
  rw [h.1.loans]
theorem q_c11 (h : RR P NP D T LC CC FC no (M.2.1 9)) (hn : 100 < n) : f_X8_count n sv x ru no pa (11 : Int32) = some (nI (fb_ct (fun l => decide (0 < pc (M.2.1 9) P (nI l))) LC)) := by
  have e : ∀ l, ofp (M.2.1 9) (-1) l = true := fun l => by
    unfold ofp
    rw [decide_eq_true rfl, Bool.true_or]
  unfold f_X8_count
  rw [if_neg (show ¬ ((11 : Int32).toInt < 0 ∨ 20 < (11 : Int32).toInt) from by decide), if_neg (show ¬ (11 : Int32) = 0 from by decide), if_neg (show ¬ (11 : Int32) = 1 from by decide), if_neg (show ¬ (11 : Int32) = 2 from by decide), if_neg (show ¬ (11 : Int32) = 3 from by decide), if_neg (show ¬ (11 : Int32) = 4 from by decide), if_neg (show ¬ (11 : Int32) = 5 from by decide), if_neg (show ¬ (11 : Int32) = 6 from by decide), if_neg (show ¬ (11 : Int32) = 7 from by decide), if_neg (show ¬ (11 : Int32) = 8 from by decide), if_neg (show ¬ (11 : Int32) = 9 from by decide), if_neg (show ¬ (11 : Int32) = 10 from by decide), if_pos (show (11 : Int32) = 11 from rfl)]
  rw [c_openLoans h.1 h.1.P64 hn, ebnd, fb_ct_cong (q := fun l => decide (0 < pc (M.2.1 9) P (nI l))) fun l _ => by rw [e, Bool.and_true]]
theorem q_c12 (h : RR P NP D T LC CC FC no (M.2.1 9)) (hn : 100 < n) : f_X8_count n sv x ru no pa (12 : Int32) = some (nI (nbk (M.2.1 9) P LC)) := by
  have e : ∀ l, ofp (M.2.1 9) (-1) l = true := fun l => by
    unfold ofp
    rw [decide_eq_true rfl, Bool.true_or]
  unfold f_X8_count
  rw [if_neg (show ¬ ((12 : Int32).toInt < 0 ∨ 20 < (12 : Int32).toInt) from by decide), if_neg (show ¬ (12 : Int32) = 0 from by decide), if_neg (show ¬ (12 : Int32) = 1 from by decide), if_neg (show ¬ (12 : Int32) = 2 from by decide), if_neg (show ¬ (12 : Int32) = 3 from by decide), if_neg (show ¬ (12 : Int32) = 4 from by decide), if_neg (show ¬ (12 : Int32) = 5 from by decide), if_neg (show ¬ (12 : Int32) = 6 from by decide), if_neg (show ¬ (12 : Int32) = 7 from by decide), if_neg (show ¬ (12 : Int32) = 8 from by decide), if_neg (show ¬ (12 : Int32) = 9 from by decide), if_neg (show ¬ (12 : Int32) = 10 from by decide), if_neg (show ¬ (12 : Int32) = 11 from by decide), if_pos (show (12 : Int32) = 12 from rfl)]
  rw [c_brokenLoans h.1 h.1.P64 hn, ebnd, fb_ct_cong (q := fun l => bk (M.2.1 9) P l) fun l _ => by rw [e, Bool.and_true]]
  rfl
theorem q_c13 (h : RR P NP D T LC CC FC no (M.2.1 9)) : f_X8_count n sv x ru no pa (13 : Int32) = some (nI CC) := by
  unfold f_X8_count
  rw [if_neg (show ¬ ((13 : Int32).toInt < 0 ∨ 20 < (13 : Int32).toInt) from by decide), if_neg (show ¬ (13 : Int32) = 0 from by decide), if_neg (show ¬ (13 : Int32) = 1 from by decide), if_neg (show ¬ (13 : Int32) = 2 from by decide), if_neg (show ¬ (13 : Int32) = 3 from by decide), if_neg (show ¬ (13 : Int32) = 4 from by decide), if_neg (show ¬ (13 : Int32) = 5 from by decide), if_neg (show ¬ (13 : Int32) = 6 from by decide), if_neg (show ¬ (13 : Int32) = 7 from by decide), if_neg (show ¬ (13 : Int32) = 8 from by decide), if_neg (show ¬ (13 : Int32) = 9 from by decide), if_neg (show ¬ (13 : Int32) = 10 from by decide), if_neg (show ¬ (13 : Int32) = 11 from by decide), if_neg (show ¬ (13 : Int32) = 12 from by decide), if_pos (show (13 : Int32) = 13 from rfl)]
  rw [h.1.claims]
theorem q_c14 (h : RR P NP D T LC CC FC no (M.2.1 9)) (hn : 100 < n) : f_X8_count n sv x ru no pa (14 : Int32) = some (nI (stc (M.2.1 9) 0 CC)) := by
  unfold f_X8_count
  rw [if_neg (show ¬ ((14 : Int32).toInt < 0 ∨ 20 < (14 : Int32).toInt) from by decide), if_neg (show ¬ (14 : Int32) = 0 from by decide), if_neg (show ¬ (14 : Int32) = 1 from by decide), if_neg (show ¬ (14 : Int32) = 2 from by decide), if_neg (show ¬ (14 : Int32) = 3 from by decide), if_neg (show ¬ (14 : Int32) = 4 from by decide), if_neg (show ¬ (14 : Int32) = 5 from by decide), if_neg (show ¬ (14 : Int32) = 6 from by decide), if_neg (show ¬ (14 : Int32) = 7 from by decide), if_neg (show ¬ (14 : Int32) = 8 from by decide), if_neg (show ¬ (14 : Int32) = 9 from by decide), if_neg (show ¬ (14 : Int32) = 10 from by decide), if_neg (show ¬ (14 : Int32) = 11 from by decide), if_neg (show ¬ (14 : Int32) = 12 from by decide), if_neg (show ¬ (14 : Int32) = 13 from by decide), if_pos (show (14 : Int32) = 14 from rfl)]
  rw [c_claimsThat h.1 hn, ebnd, clm_all]
theorem q_c15 (h : RR P NP D T LC CC FC no (M.2.1 9)) (hn : 100 < n) : f_X8_count n sv x ru no pa (15 : Int32) = some (nI (stc (M.2.1 9) 1 CC)) := by
  unfold f_X8_count
  rw [if_neg (show ¬ ((15 : Int32).toInt < 0 ∨ 20 < (15 : Int32).toInt) from by decide), if_neg (show ¬ (15 : Int32) = 0 from by decide), if_neg (show ¬ (15 : Int32) = 1 from by decide), if_neg (show ¬ (15 : Int32) = 2 from by decide), if_neg (show ¬ (15 : Int32) = 3 from by decide), if_neg (show ¬ (15 : Int32) = 4 from by decide), if_neg (show ¬ (15 : Int32) = 5 from by decide), if_neg (show ¬ (15 : Int32) = 6 from by decide), if_neg (show ¬ (15 : Int32) = 7 from by decide), if_neg (show ¬ (15 : Int32) = 8 from by decide), if_neg (show ¬ (15 : Int32) = 9 from by decide), if_neg (show ¬ (15 : Int32) = 10 from by decide), if_neg (show ¬ (15 : Int32) = 11 from by decide), if_neg (show ¬ (15 : Int32) = 12 from by decide), if_neg (show ¬ (15 : Int32) = 13 from by decide), if_neg (show ¬ (15 : Int32) = 14 from by decide), if_pos (show (15 : Int32) = 15 from rfl)]
  rw [c_claimsThat h.1 hn, ebnd, clm_all]
theorem q_c18 (h : RR P NP D T LC CC FC no (M.2.1 9)) : f_X8_count n sv x ru no pa (18 : Int32) = some (nI FC) := by
  unfold f_X8_count
  rw [if_neg (show ¬ ((18 : Int32).toInt < 0 ∨ 20 < (18 : Int32).toInt) from by decide), if_neg (show ¬ (18 : Int32) = 0 from by decide), if_neg (show ¬ (18 : Int32) = 1 from by decide), if_neg (show ¬ (18 : Int32) = 2 from by decide), if_neg (show ¬ (18 : Int32) = 3 from by decide), if_neg (show ¬ (18 : Int32) = 4 from by decide), if_neg (show ¬ (18 : Int32) = 5 from by decide), if_neg (show ¬ (18 : Int32) = 6 from by decide), if_neg (show ¬ (18 : Int32) = 7 from by decide), if_neg (show ¬ (18 : Int32) = 8 from by decide), if_neg (show ¬ (18 : Int32) = 9 from by decide), if_neg (show ¬ (18 : Int32) = 10 from by decide), if_neg (show ¬ (18 : Int32) = 11 from by decide), if_neg (show ¬ (18 : Int32) = 12 from by decide), if_neg (show ¬ (18 : Int32) = 13 from by decide), if_neg (show ¬ (18 : Int32) = 14 from by decide), if_neg (show ¬ (18 : Int32) = 15 from by decide), if_neg (show ¬ (18 : Int32) = 16 from by decide), if_neg (show ¬ (18 : Int32) = 17 from by decide), if_pos (show (18 : Int32) = 18 from rfl)]
  rw [h.1.mfines.2.1]
theorem q_c20 : f_X8_count n sv x ru no pa (20 : Int32) = some (pa.1 2) := by
  unfold f_X8_count
  rw [if_neg (show ¬ ((20 : Int32).toInt < 0 ∨ 20 < (20 : Int32).toInt) from by decide), if_neg (show ¬ (20 : Int32) = 0 from by decide), if_neg (show ¬ (20 : Int32) = 1 from by decide), if_neg (show ¬ (20 : Int32) = 2 from by decide), if_neg (show ¬ (20 : Int32) = 3 from by decide), if_neg (show ¬ (20 : Int32) = 4 from by decide), if_neg (show ¬ (20 : Int32) = 5 from by decide), if_neg (show ¬ (20 : Int32) = 6 from by decide), if_neg (show ¬ (20 : Int32) = 7 from by decide), if_neg (show ¬ (20 : Int32) = 8 from by decide), if_neg (show ¬ (20 : Int32) = 9 from by decide), if_neg (show ¬ (20 : Int32) = 10 from by decide), if_neg (show ¬ (20 : Int32) = 11 from by decide), if_neg (show ¬ (20 : Int32) = 12 from by decide), if_neg (show ¬ (20 : Int32) = 13 from by decide), if_neg (show ¬ (20 : Int32) = 14 from by decide), if_neg (show ¬ (20 : Int32) = 15 from by decide), if_neg (show ¬ (20 : Int32) = 16 from by decide), if_neg (show ¬ (20 : Int32) = 17 from by decide), if_neg (show ¬ (20 : Int32) = 18 from by decide), if_neg (show ¬ (20 : Int32) = 19 from by decide)]
theorem q_loan (h : RR P NP D T LC CC FC no (M.2.1 9)) {l j : Nat} (hl : l < LC) (hj : j < 8) : f_X8_loan n sv x no (nI l) (nI j) = some (lnv (M.2.1 9) P l j, 0) := by
  have h80 := h.1.L80
  unfold f_X8_loan
  rw [c_needLoan h.1.loans, ebnd, vb_in hl (by omega), if_pos rfl, if_pos rfl, show (7 : Int32) = nI 7 from rfl, nd3e (nI j) 7 (by decide), vb_in (by omega) (by decide), if_pos rfl, c_loanV h.1 hl hj]
theorem q_process (h : RR P NP D T LC CC FC no (M.2.1 9)) (hU : Ru P NP E Bs F Pt Ap ru M) (hn : 100 < n) {p j : Nat} (hp : p < NP) (hj : j < 10) : f_X8_process n sv x ru no (nI p) (nI j) = some (prv (M.2.1 9) P LC CC p j, 0) := c_processV h.1 hU hn hp hj
theorem q_claim (h : RR P NP D T LC CC FC no (M.2.1 9)) {q j : Nat} (hq : q < CC) (hj : j < 7) : f_X8_claim n sv x no (nI q) (nI j) = some (M.2.1 9 (602 + 7 * q + j), 0) := by
  have h60 := h.1.C60
  unfold f_X8_claim
  rw [c_needClaim h.1.claims, ebnd, vb_in hq (by omega), if_pos rfl, if_pos rfl, show (6 : Int32) = nI 6 from rfl, nd3e (nI j) 6 (by decide), vb_in (by omega) (by decide), if_pos rfl, c_claimV h.1 hq hj, ebnd]
theorem q_page (h : RR P NP D T LC CC FC no (M.2.1 9)) (hU : Ru P NP E Bs F Pt Ap ru M) {k : Nat} (hk : k < P) : f_X8_page n sv x ru no (nI k) = some (M.2.1 9 (538 + k), 0) := by
  have h64 := h.1.P64
  unfold f_X8_page
  rw [hU.1.1, nd3, vb_in hk (by omega), if_pos rfl, c_loanOf h.1 hk, ebnd]
/-- the last page of a loan is a page of its own -/
theorem q_pageOf (h : RR P NP D T LC CC FC no (M.2.1 9)) (hn : 100 < n) {l j : Nat} (hl : l < LC) (hj : j < pc (M.2.1 9) P (nI l)) : ∃ k, k < P ∧ M.2.1 9 (538 + k) = nI l ∧ f_X8_pageOf n sv x no (nI l) (nI j) = some (nI k, 0) := by
  have h80 := h.1.L80
  have h64 := h.1.P64
  obtain ⟨k, k1, k2, k3⟩ := fb_ct_kth hj
  have k4 : M.2.1 9 (538 + k) = nI l := of_decide_eq_true k2
  have k5 : pcu (M.2.1 9) l k = j := k3
  have c1 := c_pageAt_in h.1 hn (show l < 80 by omega) k1 k4
  rw [k5] at c1
  refine ⟨k, k1, k4, ?_⟩
  unfold f_X8_pageOf
  rw [c_needLoan h.1.loans, ebnd, vb_in hl (by omega), if_pos rfl, if_pos rfl, c1, ebnd, if_neg (nI_m1 k (by omega))]
theorem q_pieces (h : RR P NP D T LC CC FC no (M.2.1 9)) (hn : 100 < n) {l : Nat} (hl : l < LC) : f_X8_pieces n sv x no (nI l) = some (nI (fb_ct (pcb (pgs (M.2.1 9)) (nI l)) P), 0) := by
  have h80 := h.1.L80
  unfold f_X8_pieces
  rw [c_needLoan h.1.loans, ebnd, vb_in hl (by omega), if_pos rfl, if_pos rfl, c_rowsOf h.1 hn (by omega), ebnd]
theorem q_overdue (h : RR P NP D T LC CC FC no (M.2.1 9)) (hn : 100 < n) : f_X8_overdue n sv x no = some (nI (bp (M.2.1 9) P LC)) := by
  unfold f_X8_overdue
  rw [c_brokenPages h.1 h.1.P64 hn, ebnd]
theorem q_firstBroken (h : RR P NP D T LC CC FC no (M.2.1 9)) (hn : 100 < n) : f_X8_firstBroken n sv x no = some (toI (eb (M.2.1 9) P LC)) := by
  unfold f_X8_firstBroken
  rw [c_earliest h.1 h.1.P64 hn, ebnd]
/-- the claim that stands j-th in the line waits -/
theorem q_waiting (h : RR P NP D T LC CC FC no (M.2.1 9)) (hNP : NP ≤ 8) (hn : 100 < n) {j : Nat} (hj : j < stc (M.2.1 9) 0 CC) : ∃ w q, q < CC ∧ M.2.1 9 (602 + 7 * q + 3) = 0 ∧ (∀ sv x, f_X8_waiting n sv x no (nI j) = some (sA no 15 w, nI q, 0)) ∧ Cpy no (sA no 15 w) := by
  have h60 := h.1.C60
  obtain ⟨k, f, w, u, a1, -, a3, a4, -⟩ := lineUp (n := n) h.1 hNP hn
  have hk : k ≤ 60 := by
    have : fb_ct (wt (M.2.1 9)) CC ≤ CC := fb_ct_le _ _
    omega
  have hjk : j < k := by
    have : stc (M.2.1 9) 0 CC = fb_ct (wt (M.2.1 9)) CC := rfl
    omega
  obtain ⟨b1, -, b3, b4⟩ := a4 j hjk
  refine ⟨w, f j, b3, wt_iff.mp b4, fun sv x => ?_, ⟨fun _ _ => rfl, fun _ _ => rfl, fun _ _ => rfl, fun _ _ => rfl, fun _ _ => rfl, fun _ _ => rfl, fun _ _ => rfl⟩⟩
  have hin : f_X2_inLine n (sA no 15 w) (nI j) = some (nI (f j)) := by
    unfold f_X2_inLine
    rw [if_neg (nI_pos (by omega)), if_neg (show ¬ (60 : Int32) ≤ nI j from nI_ge (a := j) (b := 60) (by omega) (by decide)), egN (by omega) (by decide), eLet, nI_clamp (by omega), sA_get, b1]
  unfold f_X8_waiting
  rw [a1, ebnd2, nd3, vb_in hjk (by omega), if_pos rfl, hin, ebnd]
end Q50
