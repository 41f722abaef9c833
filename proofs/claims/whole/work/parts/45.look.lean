/-! more looking methods of the two inner sides -/
section LOOK
variable {P NP D K T LC CC FC E Bs F Pt Ap n : Nat} {c ru M : OS} {m : Nat → Int32}
def clm (m : Nat → Int32) (p v : Int32) (q : Nat) : Bool := decide (m (602 + 7 * q + 3) = v) && (decide (p = -1) || decide (m (602 + 7 * q) = p))
theorem c_claimsThat (h : R0 P NP D K T LC CC FC c m) (hn : 100 < n) (p v : Int32) : f_X2_claimsThat n c p v = some (nI (fb_ct (clm m p v) CC)) := by
  have h60 := h.C60
  refine cntloop (l := l_X2_claimsThat_5 n c p v) (clm m p v) (K := CC) (fun N s => ?_) (fun N s i hi => ?_) (by omega)
  · show s_X2_claimsThat_5 n c p v _ s (nI CC) = _
    unfold s_X2_claimsThat_5
    rw [h.claims, if_pos (Int32.le_refl _)]
  · have e3 := h.1.2.2.2.2.2.1 i hi 3 (by omega)
    have e0 : c.2.1 13 (7 * i) = m (602 + 7 * i) := h.1.2.2.2.2.2.1 i hi 0 (by omega)
    show s_X2_claimsThat_5 n c p v _ s (nI i) = _
    unfold s_X2_claimsThat_5 clm
    rw [h.claims, if_neg (nI_ge hi (by omega)), gC3 (by omega), ebnd, e3]
    by_cases q1 : m (602 + 7 * i + 3) = v
    · rw [if_pos q1, decide_eq_true q1, Bool.true_and]
      by_cases q2 : p = -1
      · rw [if_pos q2, decide_eq_true q2, Bool.true_or]
        simp only [eLet, nI_1, if_true]
      · rw [if_neg q2, decide_eq_false q2, Bool.false_or, gC0 (by omega), ebnd, e0]
        by_cases q3 : m (602 + 7 * i) = p
        · rw [if_pos q3, decide_eq_true q3]
          simp only [eLet, nI_1, if_true]
        · rw [if_neg q3, decide_eq_false q3]
          simp only [eLet, nI_1, Bool.false_eq_true, if_false]
    · rw [if_neg q1, decide_eq_false q1, Bool.false_and]
      simp only [eLet, nI_1, Bool.false_eq_true, if_false]
theorem clm_all (v : Int32) : fb_ct (clm m (-1) v) CC = stc m v CC := fb_ct_cong fun q _ => by
  unfold clm
  rw [decide_eq_true (rfl : (-1 : Int32) = -1), Bool.true_or, Bool.and_true]
theorem clm_one {p : Nat} (hp : p < 8) (v : Int32) : fb_ct (clm m (nI p) v) CC = stp m (nI p) v CC := fb_ct_cong fun q _ => by
  unfold clm
  rw [decide_eq_false (nI_m1 p (by omega)), Bool.false_or]
theorem m_waitingMany (h : R0 P NP D K T LC CC FC c (M.2.1 9)) (hn : 100 < n) : f_X9_waitingMany n M = some (nI (stc (M.2.1 9) 0 CC)) := by
  have h60 := h.C60
  refine cntloop (l := l_X9_waitingMany_4 n M) (wt (M.2.1 9)) (K := CC) (fun N s => ?_) (fun N s i hi => ?_) (by omega)
  · show s_X9_waitingMany_4 n M _ s (nI CC) = _
    unfold s_X9_waitingMany_4
    rw [gz7, h.mclaims, if_pos (Int32.le_refl _)]
  · show s_X9_waitingMany_4 n M _ s (nI i) = _
    unfold s_X9_waitingMany_4
    rw [gz7, h.mclaims, if_neg (nI_ge hi (by omega)), m_doesWait (by omega), ebnd, ifz]
    cases wt (M.2.1 9) i
    · simp only [eLet, nI_1, Bool.false_eq_true, if_false]
    · simp only [eLet, nI_1, if_true]
theorem m_waitingOf (h : R0 P NP D K T LC CC FC c (M.2.1 9)) (hn : 100 < n) (v : Int32) : f_X9_waitingOf n M v = some (nI (stp (M.2.1 9) v 0 CC)) := by
  have h60 := h.C60
  refine cntloop (l := l_X9_waitingOf_4 n M v) (fun q => decide (M.2.1 9 (602 + 7 * q + 3) = 0) && decide (M.2.1 9 (602 + 7 * q) = v)) (K := CC) (fun N s => ?_) (fun N s i hi => ?_) (by omega)
  · show s_X9_waitingOf_4 n M v _ s (nI CC) = _
    unfold s_X9_waitingOf_4
    rw [gz7, h.mclaims, if_pos (Int32.le_refl _)]
  · show s_X9_waitingOf_4 n M v _ s (nI i) = l_X9_waitingOf_4 n M v N (if (wt (M.2.1 9) i && decide (M.2.1 9 (602 + 7 * i) = v)) then s + 1 else s) (nI (i + 1))
    unfold s_X9_waitingOf_4
    rw [gz7, h.mclaims, if_neg (nI_ge hi (by omega)), m_doesWait (by omega), ebnd, ifz]
    cases wt (M.2.1 9) i
    · simp only [eLet, nI_1, Bool.false_eq_true, if_false, Bool.false_and]
    · simp only [if_true, Bool.true_and]
      rw [mC0 (by omega), ebnd]
      by_cases q : M.2.1 9 (602 + 7 * i) = v
      · rw [if_pos q, decide_eq_true q]
        simp only [eLet, nI_1, if_true]
      · rw [if_neg q, decide_eq_false q]
        simp only [eLet, nI_1, Bool.false_eq_true, if_false]
theorem m_openLoans (h : R0 P NP D K T LC CC FC c (M.2.1 9)) (hP : M.1 1 = nI P) (hn : 100 < n) (b : Bool) : f_X9_openLoans n M (bI b) = some (nI (fb_ct (fun l => if b then bk (M.2.1 9) P l else decide (0 < pc (M.2.1 9) P (nI l))) LC)) := by
  have h80 := h.L80
  have h64 := h.P64
  refine cntloop (l := l_X9_openLoans_4 n M (bI b)) (fun l => if b then bk (M.2.1 9) P l else decide (0 < pc (M.2.1 9) P (nI l))) (K := LC) (fun N s => ?_) (fun N s i hi => ?_) (by omega)
  · show s_X9_openLoans_4 n M (bI b) _ s (nI LC) = _
    unfold s_X9_openLoans_4
    rw [gz6, h.mloans, if_pos (Int32.le_refl _)]
  · have hle := pc_le (M.2.1 9) P (nI i)
    show s_X9_openLoans_4 n M (bI b) _ s (nI i) = _
    unfold s_X9_openLoans_4
    rw [gz6, h.mloans, if_neg (nI_ge hi (by omega)), ifz]
    cases b with
    | false =>
      simp only [Bool.false_eq_true, if_false]
      rw [m_pagesOf hP h64 hn, ebnd]
      by_cases q : 0 < pc (M.2.1 9) P (nI i)
      · rw [if_neg (nI_nle q (by omega)), decide_eq_true q]
        simp only [eLet, nI_1, if_true]
      · rw [if_pos (nI_zle (k := pc (M.2.1 9) P (nI i)) (by omega)), decide_eq_false q]
        simp only [eLet, nI_1, Bool.false_eq_true, if_false]
    | true =>
      simp only [if_true]
      rw [m_isBroken hP h64 hn (by omega), ebnd, ifz]
      cases bk (M.2.1 9) P i
      · simp only [eLet, nI_1, Bool.false_eq_true, if_false]
      · simp only [eLet, nI_1, if_true]
theorem m_loansOf (h : R0 P NP D K T LC CC FC c (M.2.1 9)) (hP : M.1 1 = nI P) (hn : 100 < n) (v : Int32) (b : Bool) : f_X9_loansOf n M v (bI b) = some (nI (fb_ct (fun l => decide (M.2.1 9 (58 + 6 * l) = v) && (if b then bk (M.2.1 9) P l else decide (0 < pc (M.2.1 9) P (nI l)))) LC)) := by
  have h80 := h.L80
  have h64 := h.P64
  refine cntloop (l := l_X9_loansOf_5 n M v (bI b)) (fun l => decide (M.2.1 9 (58 + 6 * l) = v) && (if b then bk (M.2.1 9) P l else decide (0 < pc (M.2.1 9) P (nI l)))) (K := LC) (fun N s => ?_) (fun N s i hi => ?_) (by omega)
  · show s_X9_loansOf_5 n M v (bI b) _ s (nI LC) = _
    unfold s_X9_loansOf_5
    rw [gz6, h.mloans, if_pos (Int32.le_refl _)]
  · have hle := pc_le (M.2.1 9) P (nI i)
    show s_X9_loansOf_5 n M v (bI b) _ s (nI i) = _
    unfold s_X9_loansOf_5
    rw [gz6, h.mloans, if_neg (nI_ge hi (by omega)), mL0 (by omega), ebnd]
    by_cases q0 : M.2.1 9 (58 + 6 * i) = v
    · rw [if_pos q0, decide_eq_true q0, Bool.true_and, ifz]
      cases b with
      | false =>
        simp only [Bool.false_eq_true, if_false]
        rw [m_pagesOf hP h64 hn, ebnd]
        by_cases q : 0 < pc (M.2.1 9) P (nI i)
        · rw [if_neg (nI_nle q (by omega)), decide_eq_true q]
          simp only [eLet, nI_1, if_true]
        · rw [if_pos (nI_zle (k := pc (M.2.1 9) P (nI i)) (by omega)), decide_eq_false q]
          simp only [eLet, nI_1, Bool.false_eq_true, if_false]
      | true =>
        simp only [if_true]
        rw [m_isBroken hP h64 hn (by omega), ebnd, ifz]
        cases bk (M.2.1 9) P i
        · simp only [eLet, nI_1, Bool.false_eq_true, if_false]
        · simp only [eLet, nI_1, if_true]
    · rw [if_neg q0, decide_eq_false q0, Bool.false_and]
      simp only [eLet, nI_1, Bool.false_eq_true, if_false]
theorem m_pagesOfAll (h : R0 P NP D K T LC CC FC c (M.2.1 9)) (hP : M.1 1 = nI P) (hn : 100 < n) (v : Int32) : f_X9_pagesOfAll n M v = some (nI (fb_sm (fun l => if decide (M.2.1 9 (58 + 6 * l) = v) then pc (M.2.1 9) P (nI l) else 0) LC)) := by
  have h80 := h.L80
  have h64 := h.P64
  have h1 := sumloop (l := l_X9_pagesOfAll_4 n M v) (fun l => decide (M.2.1 9 (58 + 6 * l) = v)) (fun l => nI (pc (M.2.1 9) P (nI l))) (K := LC) (N := n) (fun N s => ?_) (fun N s i hi => ?_) (by omega)
  · rw [su_nI (g := fun l => if decide (M.2.1 9 (58 + 6 * l) = v) then pc (M.2.1 9) P (nI l) else 0) (fun i _ => by
      show (if decide (M.2.1 9 (58 + 6 * i) = v) = true then nI (pc (M.2.1 9) P (nI i)) else 0) = nI (if decide (M.2.1 9 (58 + 6 * i) = v) = true then pc (M.2.1 9) P (nI i) else 0)
      cases decide (M.2.1 9 (58 + 6 * i) = v) <;> rfl)] at h1
    exact h1
  · show s_X9_pagesOfAll_4 n M v _ s (nI LC) = _
    unfold s_X9_pagesOfAll_4
    rw [gz6, h.mloans, if_pos (Int32.le_refl _)]
  · show s_X9_pagesOfAll_4 n M v _ s (nI i) = _
    unfold s_X9_pagesOfAll_4
    rw [gz6, h.mloans, if_neg (nI_ge hi (by omega)), mL0 (by omega), ebnd]
    by_cases q0 : M.2.1 9 (58 + 6 * i) = v
    · rw [if_pos q0, decide_eq_true q0, m_pagesOf hP h64 hn, ebnd]
      simp only [eLet, nI_1, if_true]
    · rw [if_neg q0, decide_eq_false q0]
      simp only [eLet, nI_1, Bool.false_eq_true, if_false]
/-! evidence -/
def evd (m : Nat → Int32) (p b e : Nat) : Nat := fb_ct (fun j => mb m p (b + 1 + j)) (e - b)
theorem evd_le (m : Nat → Int32) (p b e : Nat) : evd m p b e ≤ e - b := fb_ct_le _ _
theorem ev_loop {l : Nat → Int32 → Int32 → Option Int32} {x : Nat → Bool} {b e : Nat} (hbe : b < e) (he : e ≤ 2000) (hstop : ∀ N s, l (N + 1) s (nI (e + 1)) = some s) (hstep : ∀ N s t, b < t → t ≤ e → l (N + 1) s (nI t) = l N (if x t then s + 1 else s) (nI (t + 1))) {N : Nat} (hN : 2500 < N) : l N 0 (nI (b + 1)) = some (nI (fb_ct (fun j => x (b + 1 + j)) (e - b))) := by
  have h := loop_inv (l := l) (fun i s => b + 1 ≤ i ∧ s = nI (fb_ct (fun j => x (b + 1 + j)) (i - (b + 1)))) (Q := fun r => r = nI (fb_ct (fun j => x (b + 1 + j)) (e - b))) (K := e + 1) (fun N s hs => ⟨s, hstop N s, by rw [hs.2, show e + 1 - (b + 1) = e - b by omega]⟩) (fun N s i hi hs => Or.inl ?_) (b + 1) N 0 (by omega) (by omega) ⟨by omega, by rw [Nat.sub_self]; rfl⟩
  · obtain ⟨r, h1, h2⟩ := h
    rw [← h2]
    exact h1
  · obtain ⟨h1, h2⟩ := hs
    refine ⟨if x i then s + 1 else s, ⟨by omega, ?_⟩, hstep N s i (by omega) (by omega)⟩
    rw [show i + 1 - (b + 1) = (i - (b + 1)) + 1 by omega, fb_ct_succ, show b + 1 + (i - (b + 1)) = i by omega, h2]
    cases x i
    · rfl
    · exact nI_1 _
theorem fine_row (h : R0 P NP D K T LC CC FC c m) {f : Nat} (hf : f % 40 < FC) (hF : f < 2 ^ 31) : ∃ p w b e a, p < NP ∧ w ≤ 128000 ∧ b < e ∧ e ≤ T ∧ a ≤ 200 ∧ m (1022 + 8 * (f % 40)) = nI p ∧ m (1022 + 8 * (f % 40) + 2) = nI w ∧ m (1022 + 8 * (f % 40) + 3) = nI b ∧ m (1022 + 8 * (f % 40) + 4) = nI e ∧ m (1022 + 8 * (f % 40) + 5) = nI a := by
  have h40 : f % 40 < 40 := Nat.mod_lt _ (by decide)
  obtain ⟨⟨p, h1, h2⟩, ⟨w, h3, h4⟩, ⟨b, e, h5, h6, h7, h8⟩, ⟨a, h9, h10⟩⟩ := h.2.2.2.2.2.2.2.2 (f % 40) h40 hf
  exact ⟨p, w, b, e, a, h1, h3, h5, h6, h9, h2, h4, h7, h8, h10⟩
theorem c_ofFine (h : R0 P NP D K T LC CC FC c m) {f j : Nat} (hf : f % 40 < FC) (hF : f < 2 ^ 31) (hj : j < 8) : f_X2_ofFine n c (nI f) (nI j) = some (m (1022 + 8 * (f % 40) + j)) := by
  have h40 : f % 40 < 40 := Nat.mod_lt _ (by decide)
  unfold f_X2_ofFine
  rw [rm40 hF]
  have k := tget (n := n) (cc := 8) (z := 320) (v := f % 40) (j := j) (t := c.2.1 14) (8 * (f % 40) + j) (by omega) (by omega) (by decide)
  rw [show f_X6_get n 8 320 (c.2.1 14) (nI (f % 40)) (nI j) = some (c.2.1 14 (8 * (f % 40) + j)) from k, ebnd, h.1.2.2.2.2.2.2.1 (f % 40) h40 hf j hj]
theorem c_evidence (h : R0 P NP D K T LC CC FC c m) (hNP : NP ≤ 8) (hn : 2500 < n) {f p b e : Nat} (hf : f % 40 < FC) (hF : f < 2 ^ 31) (hp : p < NP) (hbe : b < e) (heT : e ≤ T) (h0 : m (1022 + 8 * (f % 40)) = nI p) (h3 : m (1022 + 8 * (f % 40) + 3) = nI b) (h4 : m (1022 + 8 * (f % 40) + 4) = nI e) : f_X2_evidenceFor n c (nI f) = some (nI (evd m p b e)) := by
  have hT := h.time.2.2
  have k0 : f_X2_ofFine n c (nI f) (0 : Int32) = some (m (1022 + 8 * (f % 40))) := c_ofFine (j := 0) h hf hF (by decide)
  have k3 : f_X2_ofFine n c (nI f) (3 : Int32) = some (m (1022 + 8 * (f % 40) + 3)) := c_ofFine (j := 3) h hf hF (by decide)
  have k4 : f_X2_ofFine n c (nI f) (4 : Int32) = some (m (1022 + 8 * (f % 40) + 4)) := c_ofFine (j := 4) h hf hF (by decide)
  unfold f_X2_evidenceFor
  rw [k0, ebnd, k4, ebnd, k3, ebnd, eLet, h0, h3, h4, nI_1]
  refine ev_loop (l := l_X2_evidenceFor_27 n c (nI p) (nI e)) (x := mb m p) hbe (by omega) (fun N s => ?_) (fun N s t h1 h2 => ?_) hn
  · show s_X2_evidenceFor_27 n c (nI p) (nI e) _ s (nI (e + 1)) = _
    unfold s_X2_evidenceFor_27
    rw [if_pos (nI_lt (by omega) (by omega))]
  · show s_X2_evidenceFor_27 n c (nI p) (nI e) _ s (nI t) = _
    unfold s_X2_evidenceFor_27
    rw [if_neg (nI_nlt h2 (by omega)), c_stalledIn (by omega) (by omega), ebnd, ifz, (h.1.2.2.2.2.2.2.2 p (by omega)).1 t (by omega)]
    cases mb m p t
    · simp only [eLet, nI_1, Bool.false_eq_true, if_false]
    · simp only [eLet, nI_1, if_true]
theorem m_evidence (h : R0 P NP D K T LC CC FC c (M.2.1 9)) (hNP : NP ≤ 8) (hn : 2500 < n) {f p b e : Nat} (hF : f < 2 ^ 31) (hp : p < NP) (hbe : b < e) (heT : e ≤ T) (h0 : M.2.1 9 (1022 + 8 * (f % 40)) = nI p) (h3 : M.2.1 9 (1022 + 8 * (f % 40) + 3) = nI b) (h4 : M.2.1 9 (1022 + 8 * (f % 40) + 4) = nI e) : f_X9_evidenceFor n M (nI f) = some (nI (evd (M.2.1 9) p b e)) := by
  have hT := h.time.2.2
  unfold f_X9_evidenceFor
  rw [mF3 hF, ebnd, eLet, h3, nI_1]
  refine ev_loop (l := l_X9_evidenceFor_11 n M (nI f)) (x := mb (M.2.1 9) p) hbe (by omega) (fun N s => ?_) (fun N s t h1 h2 => ?_) hn
  · show s_X9_evidenceFor_11 n M (nI f) _ s (nI (e + 1)) = _
    unfold s_X9_evidenceFor_11
    rw [mF4 hF, ebnd, h4, if_pos (nI_lt (by omega) (by omega))]
  · show s_X9_evidenceFor_11 n M (nI f) _ s (nI t) = _
    unfold s_X9_evidenceFor_11
    rw [mF4 hF, ebnd, h4, if_neg (nI_nlt h2 (by omega)), mF0 hF, ebnd, h0, m_wasStalledIn (by omega) (by omega), ebnd, ifz]
    cases mb (M.2.1 9) p t
    · simp only [eLet, nI_1, Bool.false_eq_true, if_false]
    · simp only [eLet, nI_1, if_true]
/-! the pages of a loan -/
theorem cl_w (h : R0 P NP D K T LC CC FC c m) {l k : Nat} (hl : l < 2 ^ 31) (hk : k < 64) : (c.2.1 10 k = nI l) ↔ (k < P ∧ m (538 + k) = nI l) := by
  obtain ⟨h1, h2⟩ := h.1.2.1
  by_cases q : k < P
  · rw [h1 k q]
    exact ⟨fun z => ⟨q, z⟩, fun z => z.2⟩
  · rw [h2 k (by omega) hk]
    exact ⟨fun z => absurd z.symm (nI_m2 l hl), fun z => absurd z.1 q⟩
def pcu (m : Nat → Int32) (l k : Nat) : Nat := fb_ct (fun i => decide (m (538 + i) = nI l)) k
theorem pcu_P (l : Nat) : pcu m l P = pc m P (nI l) := rfl
theorem c_pageAt_in (h : R0 P NP D K T LC CC FC c m) (hn : 100 < n) {l k : Nat} (hl : l < 80) (hk : k < P) (hw : m (538 + k) = nI l) : f_X2_pageAt n c (nI l) (nI (pcu m l k)) = some (nI k) := by
  have h64 := h.P64
  have hle : ∀ i, pcu m l i ≤ i := fun i => fb_ct_le _ _
  have hh := loop_inv (l := fun N (s : Int32) i => l_X2_pageAt_5 n c (nI l) (nI (pcu m l k)) N s i) (fun i s => i ≤ k ∧ s = nI (pcu m l i)) (Q := fun r => r = nI k) (K := 64) (fun N s hs => absurd hs.1 (by omega)) (fun N s i hi hs => ?_) 0 n 0 (by omega) (by omega) ⟨by omega, rfl⟩
  · obtain ⟨r, h1, h2⟩ := hh
    rw [← h2]
    exact h1
  · obtain ⟨h1, h2⟩ := hs
    have hki := hle i
    have hkk := hle k
    have hu : l_X2_pageAt_5 n c (nI l) (nI (pcu m l k)) (N + 1) s (nI i) = s_X2_pageAt_5 n c (nI l) (nI (pcu m l k)) (l_X2_pageAt_5 n c (nI l) (nI (pcu m l k)) N) s (nI i) := rfl
    have hsucc : pcu m l (i + 1) = pcu m l i + (if decide (m (538 + i) = nI l) then 1 else 0) := fb_ct_succ _ _
    have hc := cl_w h (l := l) (k := i) (by omega) (by omega)
    unfold s_X2_pageAt_5 at hu
    rw [if_neg (show ¬ (64 : Int32) ≤ nI i from nI_ge (a := i) (b := 64) hi (by decide)), egN hi (by decide), eLet, nI_clamp (by omega), h2] at hu
    by_cases q : c.2.1 10 i = nI l
    · rw [if_pos q] at hu
      have q2 := (hc.mp q).2
      by_cases q3 : i = k
      · subst q3
        rw [if_pos rfl] at hu
        exact Or.inr ⟨_, by rw [h2]; exact hu, rfl⟩
      · have hlt : pcu m l i < pcu m l k := by
          have := fb_ct_mono (fun i => decide (m (538 + i) = nI l)) (show i + 1 ≤ k by omega)
          rw [decide_eq_true q2] at hsucc
          simp only [if_true] at hsucc
          have h9 : pcu m l (i + 1) ≤ pcu m l k := this
          omega
        rw [if_neg (fun z => by have := nI_inj (by omega) (by omega) z; omega), eLet, eLet, nI_1, nI_1] at hu
        refine Or.inl ⟨nI (pcu m l i + 1), ⟨by omega, ?_⟩, by rw [h2]; exact hu⟩
        rw [hsucc, decide_eq_true q2]
        rfl
    · rw [if_neg q, eLet, nI_1] at hu
      have q2 : ¬ m (538 + i) = nI l := fun z => q (hc.mpr ⟨by omega, z⟩)
      have q3 : i ≠ k := fun z => q2 (by rw [z]; exact hw)
      refine Or.inl ⟨nI (pcu m l i), ⟨by omega, ?_⟩, by rw [h2]; exact hu⟩
      rw [hsucc, decide_eq_false q2]
      rfl
theorem c_pageAt_out (h : R0 P NP D K T LC CC FC c m) (hn : 100 < n) {l : Nat} {v : Int32} (hl : l < 80) (hv : vb v (pc m P (nI l)) = false) : f_X2_pageAt n c (nI l) v = some (-1) := by
  have h64 := h.P64
  have hle : ∀ i, pcu m l i ≤ i := fun i => fb_ct_le _ _
  have hpP := pc_le m P (nI l)
  have hh := loop_inv (l := fun N (s : Int32) i => l_X2_pageAt_5 n c (nI l) v N s i) (fun i s => s = nI (pcu m l (min i P))) (Q := fun r => r = (-1 : Int32)) (K := 64) (fun N s hs => ⟨-1, ?_, rfl⟩) (fun N s i hi hs => Or.inl ?_) 0 n 0 (by omega) (by omega) (by rw [Nat.zero_min]; rfl)
  · obtain ⟨r, h1, h2⟩ := hh
    rw [← h2]
    exact h1
  · show s_X2_pageAt_5 n c (nI l) v _ s (nI 64) = _
    unfold s_X2_pageAt_5
    rw [if_pos (show (64 : Int32) ≤ nI 64 from Int32.le_refl (64 : Int32))]
  · have hc := cl_w h (l := l) (k := i) (by omega) (by omega)
    have hsucc : pcu m l (i + 1) = pcu m l i + (if decide (m (538 + i) = nI l) then 1 else 0) := fb_ct_succ _ _
    have hki := hle i
    have hu : l_X2_pageAt_5 n c (nI l) v (N + 1) s (nI i) = s_X2_pageAt_5 n c (nI l) v (l_X2_pageAt_5 n c (nI l) v N) s (nI i) := rfl
    unfold s_X2_pageAt_5 at hu
    rw [if_neg (show ¬ (64 : Int32) ≤ nI i from nI_ge (a := i) (b := 64) hi (by decide)), egN hi (by decide), eLet, nI_clamp (by omega), hs] at hu
    by_cases q : c.2.1 10 i = nI l
    · rw [if_pos q] at hu
      obtain ⟨q1, q2⟩ := hc.mp q
      rw [Nat.min_eq_left (show i ≤ P by omega)] at hu hs
      have hlt : pcu m l i < pc m P (nI l) := by
        have := fb_ct_mono (fun i => decide (m (538 + i) = nI l)) (show i + 1 ≤ P by omega)
        rw [decide_eq_true q2] at hsucc
        simp only [if_true] at hsucc
        have h9 : pcu m l (i + 1) ≤ pc m P (nI l) := this
        omega
      rw [if_neg (fun z => by rw [← z, vb_in hlt (by omega)] at hv; cases hv), eLet, eLet, nI_1, nI_1] at hu
      refine ⟨nI (pcu m l i + 1), ?_, by rw [hs]; exact hu⟩
      rw [Nat.min_eq_left (show i + 1 ≤ P by omega), hsucc, decide_eq_true q2]
      rfl
    · rw [if_neg q, eLet, nI_1] at hu
      refine ⟨nI (pcu m l (min i P)), ?_, by rw [hs]; exact hu⟩
      by_cases q1 : i < P
      · have q2 : ¬ m (538 + i) = nI l := fun z => q (hc.mpr ⟨q1, z⟩)
        rw [Nat.min_eq_left (show i ≤ P by omega), Nat.min_eq_left (show i + 1 ≤ P by omega), hsucc, decide_eq_false q2]
        rfl
      · rw [Nat.min_eq_right (show P ≤ i by omega), Nat.min_eq_right (show P ≤ i + 1 by omega)]
theorem m_pageOf_loop (hn : 100 < n) {l k : Nat} (hk : k < 64) (hw : M.2.1 9 (538 + k) = nI l) : l_X9_pageOf_41 n (nI l) n M (nI (pcu (M.2.1 9) l k)) 0 = some (M, nI k) := by
  have hle : ∀ i, pcu (M.2.1 9) l i ≤ i := fun i => fb_ct_le _ _
  have hh := loop_inv (l := fun N (s : Int32) i => l_X9_pageOf_41 n (nI l) N M s i) (fun i s => i ≤ k ∧ pcu (M.2.1 9) l i ≤ pcu (M.2.1 9) l k ∧ s = nI (pcu (M.2.1 9) l k - pcu (M.2.1 9) l i)) (Q := fun r => r = (M, nI k)) (K := 64) (fun N s hs => absurd hs.1 (by omega)) (fun N s i hi hs => ?_) 0 n (nI (pcu (M.2.1 9) l k)) (by omega) (by omega) ⟨by omega, Nat.zero_le _, rfl⟩
  · obtain ⟨r, h1, h2⟩ := hh
    rw [← h2]
    exact h1
  · obtain ⟨h1, h2, h3⟩ := hs
    have hkk := hle k
    have hu : l_X9_pageOf_41 n (nI l) (N + 1) M s (nI i) = s_X9_pageOf_41 n (nI l) (l_X9_pageOf_41 n (nI l) N) M s (nI i) := rfl
    have hsucc : pcu (M.2.1 9) l (i + 1) = pcu (M.2.1 9) l i + (if decide (M.2.1 9 (538 + i) = nI l) then 1 else 0) := fb_ct_succ _ _
    unfold s_X9_pageOf_41 j_X9_pageOf_60 at hu
    rw [ow_ix, rz (by omega), h3] at hu
    simp only [ow_ix, rz (show 538 + i < 1846 by omega)] at hu
    by_cases q : M.2.1 9 (538 + i) = nI l
    · simp only [if_pos q] at hu
      by_cases q3 : i = k
      · subst q3
        rw [Nat.sub_self, if_pos (nI_zle rfl)] at hu
        exact Or.inr ⟨_, by rw [h3, Nat.sub_self]; exact hu, rfl⟩
      · have hlt : pcu (M.2.1 9) l i < pcu (M.2.1 9) l k := by
          have := fb_ct_mono (fun i => decide (M.2.1 9 (538 + i) = nI l)) (show i + 1 ≤ k by omega)
          rw [decide_eq_true q] at hsucc
          simp only [if_true] at hsucc
          have h9 : pcu (M.2.1 9) l (i + 1) ≤ pcu (M.2.1 9) l k := this
          omega
        rw [if_neg (nI_nle (by omega) (by omega)), eLet, eLet, nI_1] at hu
        rw [decide_eq_true q] at hsucc
        simp only [if_true] at hsucc
        refine Or.inl ⟨_, ⟨by omega, by omega, ?_⟩, by rw [h3]; exact hu⟩
        rw [show nI (pcu (M.2.1 9) l k - pcu (M.2.1 9) l i) - 1 = nI (pcu (M.2.1 9) l k - pcu (M.2.1 9) l i - 1) from pk_sub (b := 1) (by omega)]
        exact congrArg nI (by omega)
    · simp only [if_neg q] at hu
      rw [eLet, nI_1] at hu
      rw [decide_eq_false q] at hsucc
      simp only [Bool.false_eq_true, if_false, Nat.add_zero] at hsucc
      have q3 : i ≠ k := fun z => q (by rw [z]; exact hw)
      refine Or.inl ⟨_, ⟨by omega, by rw [hsucc]; exact h2, ?_⟩, by rw [h3]; exact hu⟩
      rw [hsucc]
end LOOK
