/-! a semicolon, a number, a name, read on both sides -/
section READ
variable {n len NP : Nat} {inp rd rr M : OS} {B : Nat → Nat}
theorem ts_fn {c : Prop} {a b : Nat} : c → a = b → a = b := fun _ h => h
theorem kd3_mk {s e : Nat} (h1 : kd B len s ≠ 1) : (mk B len s e = 3) ↔ kd B len s = 3 := by
  have := kd_le B len s
  unfold mk
  constructor
  · intro h
    revert h
    repeat (first | split | (intro h; omega))
  · intro h
    rw [if_neg (by omega), if_neg (by omega), if_neg (by omega), if_pos h]
theorem mk_le (s e : Nat) : mk B len s e ≤ 4 := by
  unfold mk
  repeat (first | split | omega)
/-- a semicolon -/
theorem rdSemi {s e : Nat} (h : AL B len inp s e rd M) (hn : 700 < n) : (∃ rd' M' s' e', f_X4_readSemicolon n rd 600 inp = some (rd', 1) ∧ j_X9_statement_91 n M = some M' ∧ AL B len inp s' e' rd' M' ∧ s < s' ∧ (∀ j, j < 5 ∨ 8 < j → rd'.1 j = rd.1 j) ∧ rd'.2 = rd.2 ∧ Fn M M') ∨ (∃ rd' M', f_X4_readSemicolon n rd 600 inp = some (rd', 0) ∧ j_X9_statement_91 n M = some M' ∧ DD rd' M' ∧ FP M M') := by
  have k5 := kd_le B len s
  have m4 := mk_le (B := B) (len := len) s e
  by_cases k3 : kd B len s = 3
  · obtain ⟨rd', M', s', e', a1, a2, a3, a4, a5, a6, a7⟩ := stepBoth h hn
    have hm : mk B len s e = 3 := (kd3_mk h.2.1.2.2.2).mpr k3
    refine Or.inl ⟨rd', M', s', e', ?_, ?_, a3, ?_, a5, a6, a7⟩
    · unfold f_X4_readSemicolon
      rw [h.2.2.2.2.1.2.2.1, k3, if_pos (show nI 3 = (3 : Int32) from rfl), a1, ebnd]
    · unfold j_X9_statement_91 j_X9_statement_105
      rw [h.2.2.2.2.2.1.2.2.1, hm, if_pos (show nI 3 = (3 : Int32) from rfl), m_needs1, ebnd, m_goOnA h.2.2.2.2.2.2.2.2.1, a2, ebnd]
    · have := h.2.1.2.2.1 (by omega)
      omega
  · obtain ⟨d1, d2, d3⟩ := h.fail (v := 1) (by decide)
    refine Or.inr ⟨_, _, ?_, ?_, d1, d2⟩
    · unfold f_X4_readSemicolon
      rw [h.2.2.2.2.1.2.2.1, if_neg (show ¬ nI (kd B len s) = (3 : Int32) from fun z => k3 (nI_inj (b := 3) (by omega) (by decide) z)), c_fail, ebnd2, egZ0]
    · have hm : ¬ mk B len s e = 3 := fun z => k3 ((kd3_mk h.2.1.2.2.2).mp z)
      unfold j_X9_statement_91 j_X9_statement_105
      rw [h.2.2.2.2.2.1.2.2.1, if_neg (show ¬ nI (mk B len s e) = (3 : Int32) from fun z => hm (nI_inj (b := 3) (by omega) (by decide) z)), m_needs0 h.2.2.2.2.2.2.2.2.1, ebnd, m_goOnD d1.2.2, ebnd]
theorem semiD (h : M.1 31 ≠ 0) : j_X9_statement_91 n M = some M := by
  unfold j_X9_statement_91 j_X9_statement_105
  rw [m_needsD h, m_needsD h, ebnd, m_goOnD h, ebnd, ite_self]
/-- the class's loop over digits -/
theorem c_digits (hT : Tx B len inp M) {s e a b : Nat} (hse : s ≤ e) (he : e ≤ len) (h3 : e - s ≤ 3) (h7 : rd.1 7 = nI e) (hd : ∀ j, s ≤ j → j < e → 48 ≤ B j ∧ B j ≤ 57) : ∀ (d i N : Nat), s + i + d = e → d < N → l_X4_readNumber_35 n 600 inp (nI a) (nI b) N rd (nI (vl B s i)) (nI (s + i)) = j_X4_readNumber_68 n 600 inp (nI a) (nI b) rd (nI (vl B s (e - s)))
  | 0, i, N, hi, hN => by
    obtain ⟨N', rfl⟩ : ∃ N', N = N' + 1 := ⟨N - 1, by omega⟩
    have h600 := hT.1
    show s_X4_readNumber_35 n 600 inp (nI a) (nI b) _ rd (nI (vl B s i)) (nI (s + i)) = _
    unfold s_X4_readNumber_35
    rw [h7, if_pos (nI_le (by omega) (by omega)), show e - s = i by omega]
  | d + 1, i, N, hi, hN => by
    obtain ⟨N', rfl⟩ : ∃ N', N = N' + 1 := ⟨N - 1, by omega⟩
    have h600 := hT.1
    have hb := hd (s + i) (by omega) (by omega)
    have hvl := vl_le (B := B) (s := s) (j := i) fun k hk => (hd (s + k) (by omega) (by omega)).2
    have hp : 10 ^ i ≤ 10 ^ 3 := Nat.pow_le_pow_right (by decide) (by omega)
    have hv : nI (vl B s i) * (10 : Int32) + nI (B (s + i)) - 48 = nI (vl B s (i + 1)) := by
      rw [show (10 : Int32) = nI 10 from rfl, pk_mul, nI_add, show (48 : Int32) = nI 48 from rfl, pk_sub (by omega)]
      congr 1
      show vl B s i * 10 + B (s + i) - 48 = 10 * vl B s i + (B (s + i) - 48)
      omega
    show s_X4_readNumber_35 n 600 inp (nI a) (nI b) (l_X4_readNumber_35 n 600 inp (nI a) (nI b) N') rd (nI (vl B s i)) (nI (s + i)) = _
    unfold s_X4_readNumber_35
    rw [h7, if_neg (nI_ge (show s + i < e by omega) (by omega)), c_at hT (by omega), ebnd, if_pos (show s + i < len by omega), eLet, hv, eLet, nI_1]
    exact c_digits hT hse he h3 h7 hd d (i + 1) N' (by omega) (by omega)
/-- a number from a to b -/
theorem rdNum {s e a b : Nat} (h : AL B len inp s e rd M) (ha : a < 2 ^ 30) (hb : b < 2 ^ 30) (hn : 700 < n) : (∃ rd' M' s' e' v, a ≤ v ∧ v ≤ b ∧ f_X4_readNumber n rd 600 inp (nI a) (nI b) = some (rd', 1) ∧ rd'.1 10 = nI v ∧ f_X9_number n M (nI a) (nI b) = some (M', nI v) ∧ AL B len inp s' e' rd' M' ∧ s ≤ s' ∧ (∀ j, j < 5 ∨ j = 9 ∨ 10 < j → rd'.1 j = rd.1 j) ∧ rd'.2 = rd.2 ∧ Fn M M') ∨ (∃ rd' M' r, f_X4_readNumber n rd 600 inp (nI a) (nI b) = some (rd', 0) ∧ f_X9_number n M (nI a) (nI b) = some (M', r) ∧ DD rd' M' ∧ FP M M' ∧ M'.1 34 = M.1 34) := by
  have h600 := h.1.1
  have hel := h.2.1.2.1
  have k5 := kd_le B len s
  have m4 := mk_le (B := B) (len := len) s e
  have hA := h.2.2.2.2.2.2.2.2.1
  have hmk : (mk B len s e = 2) ↔ (kd B len s = 5 ∧ e - s ≤ 3) := by
    have h1 := h.2.1.2.2.2
    unfold mk
    constructor
    · intro z
      revert z
      repeat (first | split | (intro z; omega))
    · rintro ⟨z1, z2⟩
      rw [if_neg (by omega), if_neg (by omega), if_pos z1, if_pos z2]
  have fail1 : ¬ (kd B len s = 5 ∧ e - s ≤ 3) → ∃ rd' M' r, f_X4_readNumber n rd 600 inp (nI a) (nI b) = some (rd', 0) ∧ f_X9_number n M (nI a) (nI b) = some (M', r) ∧ DD rd' M' ∧ FP M M' ∧ M'.1 34 = M.1 34 := fun z => by
    obtain ⟨d1, d2, d3⟩ := h.fail (v := 1) (by decide)
    refine ⟨_, _, (sI (sI M 31 1) 32 (M.1 26)).1 29, ?_, ?_, d1, d2, d3⟩
    · unfold f_X4_readNumber
      rw [h.2.2.2.2.1.2.2.1, h.2.2.2.2.1.1, h.2.2.2.2.1.2.1, pk_sub h.2.1.1]
      by_cases q : kd B len s = 5
      · rw [q, if_pos (show nI 5 = (5 : Int32) from rfl), if_neg (show ¬ nI (e - s) ≤ (3 : Int32) from nI_ge (a := 3) (b := e - s) (by omega) (by omega)), c_fail, ebnd2, egZ0, h.2.2.2.2.1.1]
      · rw [if_neg (show ¬ nI (kd B len s) = (5 : Int32) from fun y => q (nI_inj (b := 5) (by omega) (by decide) y)), c_fail, ebnd2, egZ0, h.2.2.2.2.1.1]
    · have hm : ¬ mk B len s e = 2 := fun y => z (hmk.mp y)
      unfold f_X9_number j_X9_number_14 j_X9_number_42
      rw [h.2.2.2.2.2.1.2.2.1, if_neg (show ¬ nI (mk B len s e) = (2 : Int32) from fun y => hm (nI_inj (b := 2) (by omega) (by decide) y)), m_needs0 hA, ebnd, m_fineD d1.2.2, ebnd, if_pos rfl, eLet, m_goOnD d1.2.2, ebnd]
  by_cases z : kd B len s = 5 ∧ e - s ≤ 3
  · obtain ⟨z1, z2⟩ := z
    have hdg := h.2.2.2.1 z1
    have hse := h.2.1.2.2.1 (by omega)
    have hvl := vl_le (B := B) (s := s) (j := e - s) fun k hk => (hdg (s + k) (by omega) (by omega)).2
    have hp : 10 ^ (e - s) ≤ 10 ^ 3 := Nat.pow_le_pow_right (by decide) z2
    have h29 : M.1 29 = nI (vl B s (e - s)) := by
      have := h.2.2.2.2.2.1.2.2.2.2 z1
      rw [Nat.min_eq_left z2] at this
      exact this
    have hc : f_X4_readNumber n rd 600 inp (nI a) (nI b) = j_X4_readNumber_68 n 600 inp (nI a) (nI b) rd (nI (vl B s (e - s))) := by
      have q := c_digits (n := n) (rd := rd) (a := a) (b := b) h.1 h.2.1.1 h.2.1.2.1 z2 h.2.2.2.2.1.2.1 hdg (e - s) 0 n (by omega) (by omega)
      unfold f_X4_readNumber
      rw [h.2.2.2.2.1.2.2.1, z1, if_pos (show nI 5 = (5 : Int32) from rfl), h.2.2.2.2.1.1, h.2.2.2.2.1.2.1, pk_sub h.2.1.1, if_pos (show nI (e - s) ≤ (3 : Int32) from nI_le (b := 3) z2 (by decide)), eLet]
      exact q
    have hm : f_X9_number n M (nI a) (nI b) = if a ≤ vl B s (e - s) ∧ vl B s (e - s) ≤ b then j_X9_number_42 n M else j_X9_number_42 n (sI (sI M 31 2) 32 (M.1 26)) := by
      unfold f_X9_number j_X9_number_14
      rw [h.2.2.2.2.2.1.2.2.1, hmk.mpr ⟨z1, z2⟩, if_pos (show nI 2 = (2 : Int32) from rfl), m_needs1, ebnd, m_fineA hA, ebnd, if_neg (show ¬ (1 : Int32) = 0 from by decide), h29, in32, ebnd]
      by_cases q : a ≤ vl B s (e - s) ∧ vl B s (e - s) ≤ b
      · rw [decide_eq_true (nI_le q.1 (by omega)), decide_eq_true (nI_le q.2 (by omega)), if_pos q, show bI (true && true) = 1 from rfl, m_needs1, ebnd]
      · have : (decide (nI a ≤ nI (vl B s (e - s))) && decide (nI (vl B s (e - s)) ≤ nI b)) = false := by
          rw [← Bool.not_eq_true, Bool.and_eq_true, decide_eq_true_eq, decide_eq_true_eq, nI_leI (by omega) (by omega), nI_leI (by omega) (by omega)]
          exact q
        rw [this, if_neg q, show bI false = 0 from rfl, m_needs0 hA, ebnd]
    by_cases q : a ≤ vl B s (e - s) ∧ vl B s (e - s) ≤ b
    · have hal : AL B len inp s e (sI rd 10 (nI (vl B s (e - s)))) M := by
        obtain ⟨t1, t2, t3, t4, t5, t6, t7, t8, t9⟩ := h
        exact ⟨t1, t2, t3, t4, t5, t6, t7, t8, t9⟩
      obtain ⟨rd', M', s', e', a1, a2, a3, a4, a5, a6, a7⟩ := stepBoth hal hn
      refine Or.inl ⟨rd', M', s', e', vl B s (e - s), q.1, q.2, ?_, ?_, ?_, a3, by omega, fun j hj => ?_, a6, a7⟩
      · rw [hc]
        unfold j_X4_readNumber_68
        rw [if_neg (nI_nlt q.1 (by omega)), if_pos (nI_le q.2 (by omega)), eLet, a1, ebnd]
      · rw [a5 10 (by omega), sI_s]
      · rw [hm, if_pos q]
        unfold j_X9_number_42
        rw [eLet, m_goOnA hA, a2, ebnd, h29]
      · rw [a5 j (by omega), sI_o (by omega)]
    · obtain ⟨d1, d2, d3⟩ := h.fail (v := 2) (by decide)
      refine Or.inr ⟨_, _, (sI (sI M 31 2) 32 (M.1 26)).1 29, ?_, ?_, d1, d2, d3⟩
      · rw [hc]
        unfold j_X4_readNumber_68
        by_cases q2 : vl B s (e - s) < a
        · rw [if_pos (nI_lt q2 (by omega)), c_fail, ebnd2, egZ0]
        · rw [if_neg (nI_nlt (by omega) (by omega)), if_neg (nI_ge (by omega) (by omega)), c_fail, ebnd2, egZ0]
      · rw [hm, if_neg q]
        unfold j_X9_number_42
        rw [eLet, m_goOnD d1.2.2, ebnd]
  · exact Or.inr (fail1 z)
theorem numD (h : M.1 31 ≠ 0) (a b : Int32) : f_X9_number n M a b = some (M, M.1 29) := by
  have j : ∀ c, j_X9_number_14 n a b M c = some (M, M.1 29) := fun c => by
    unfold j_X9_number_14 j_X9_number_42
    rw [m_needsD h, ebnd, m_fineD h, ebnd, if_pos rfl, eLet, m_goOnD h, ebnd]
  unfold f_X9_number
  rw [j, j, ite_self]
/-! names -/
/-- the token is a name -/
def isN (B : Nat → Nat) (len s e : Nat) : Bool := decide (kd B len s = 4) && (decide (wdx B s e = 0) && decide (e - s ≤ 6))
theorem c_isName {s e : Nat} (h : AL B len inp s e rd M) : f_X4_isName n rd = some (bI (isN B len s e)) := by
  have h600 := h.1.1
  have hel := h.2.1.2.1
  have k5 := kd_le B len s
  have w := wdx_lt B s e
  unfold f_X4_isName isN
  rw [h.2.2.2.2.1.2.2.1]
  by_cases q : kd B len s = 4
  · have h8 := h.2.2.2.2.1.2.2.2
    rw [if_pos q] at h8
    rw [q, if_pos (show nI 4 = (4 : Int32) from rfl), h8, egN w (by decide), show gI 14 (0 : Int32) _ = _ from egN (k := 0) (by decide) (by decide), h.2.2.2.2.1.1, h.2.2.2.2.1.2.1, pk_sub h.2.1.1, decide_eq_true rfl, Bool.true_and]
    by_cases q2 : wdx B s e = 0
    · rw [q2, if_pos (show nI 0 = (0 : Int32) from rfl), decide_eq_true rfl, Bool.true_and]
      by_cases q3 : e - s ≤ 6
      · rw [if_neg (show ¬ (6 : Int32) < nI (e - s) from nI_nlt (b := e - s) (a := 6) q3 (by decide)), decide_eq_true q3]
        rfl
      · rw [if_pos (show (6 : Int32) < nI (e - s) from nI_lt (a := 6) (by omega) (by omega)), decide_eq_false q3]
        rfl
    · rw [if_neg (nI_ne0 (by omega) (by omega)), decide_eq_false q2]
      rfl
  · rw [if_neg (show ¬ nI (kd B len s) = (4 : Int32) from fun y => q (nI_inj (b := 4) (by omega) (by decide) y)), decide_eq_false q]
    rfl
theorem mk1 {s e : Nat} : (mk B len s e = 1) ↔ kd B len s = 4 := by
  unfold mk
  constructor
  · intro z
    revert z
    repeat (first | split | (intro z; omega))
  · intro z
    rw [if_neg (by omega), if_pos z]
theorem m_isName {s e : Nat} (h : AL B len inp s e rd M) : f_X9_isName n M = some (bI (isN B len s e)) := by
  have h600 := h.1.1
  have hel := h.2.1.2.1
  have m4 := mk_le (B := B) (len := len) s e
  have w := wdx_lt B s e
  unfold f_X9_isName isN
  rw [h.2.2.2.2.2.1.2.2.1]
  by_cases q : kd B len s = 4
  · obtain ⟨h28, _⟩ := h.2.2.2.2.2.1.2.2.2.1 q
    rw [mk1.mpr q, if_pos (show nI 1 = (1 : Int32) from rfl), h28, h.2.2.2.2.2.1.1, h.2.2.2.2.2.1.2.1, pk_sub h.2.1.1, decide_eq_true q, Bool.true_and]
    by_cases q2 : wdx B s e = 0
    · rw [q2, if_pos (show nI 0 - 1 = (-1 : Int32) from by decide), decide_eq_true rfl, Bool.true_and]
      by_cases q3 : e - s ≤ 6
      · rw [if_neg (show ¬ (6 : Int32) < nI (e - s) from nI_nlt (b := e - s) (a := 6) q3 (by decide)), decide_eq_true q3]
        rfl
      · rw [if_pos (show (6 : Int32) < nI (e - s) from nI_lt (a := 6) (by omega) (by omega)), decide_eq_false q3]
        rfl
    · obtain ⟨k, hk⟩ : ∃ k, wdx B s e = k + 1 := ⟨wdx B s e - 1, by omega⟩
      rw [if_neg (by rw [hk, nI_pred]; exact nI_m1 k (by omega)), decide_eq_false q2]
      rfl
  · rw [if_neg (show ¬ nI (mk B len s e) = (1 : Int32) from fun y => q (mk1.mp (nI_inj (b := 1) (by omega) (by decide) y))), decide_eq_false q]
    rfl
theorem indexOfF {f : Nat → Int64} {v : Int64} (hNP : NP ≤ 8) (hn : 100 < n) : f_X9_indexOf n 8 f (nI NP) v = some (toI (fnx (fun p => decide (f p = v)) NP 0)) := m_indexOf (M := ((fun _ => 0), (fun _ _ => 0), (fun _ => f), (fun _ => 0))) hNP hn
/-- the drafts' names -/
def Nd (NP : Nat) (rr M : OS) : Prop := ∃ (ln : Nat → Nat) (x : Nat → Nat → Nat), ∀ p, p < NP → 1 ≤ ln p ∧ ln p ≤ 6 ∧ (∀ i, i < ln p → 97 ≤ x p i ∧ x p i ≤ 122 ∧ rr.2.1 7 (7 * p + i) = nI (x p i)) ∧ rr.2.1 7 (7 * p + 6) = nI (ln p) ∧ M.2.2.1 38 p = lN (sp (x p) (ln p))
/-- a name that stands here, looked up in the drafts -/
theorem nameIn {s e : Nat} (h : AL B len inp s e rd M) (hi : isN B len s e = true) (hN : Nd NP rr M) (hr1 : rr.1 1 = nI NP) (h34 : M.1 34 = nI NP) (hNP : NP ≤ 8) (hn : 700 < n) : ∃ o, f_X5_processNamed n rr 600 inp (rd.1 6) (rd.1 7) = some (toI o) ∧ f_X9_indexOf n 8 (M.2.2.1 38) (M.1 34) (M.2.2.2 30) = some (toI o) ∧ (∀ p, o = some p → p < NP) ∧ kd B len s = 4 ∧ e - s ≤ 6 ∧ M.2.2.2 30 = lN (sp (fun i => B (s + i)) (e - s)) := by
  unfold isN at hi
  obtain ⟨i1, i2⟩ := Bool.and_eq_true_iff.mp hi
  obtain ⟨i3, i4⟩ := Bool.and_eq_true_iff.mp i2
  have k4 := of_decide_eq_true i1
  have q6 := of_decide_eq_true i4
  have h30 := (h.2.2.2.2.2.1.2.2.2.1 k4).2
  rw [Nat.min_eq_left q6] at h30
  obtain ⟨ln, y, hNm⟩ := hN
  have hNr : Nr rr ln y NP := fun p hp => by
    obtain ⟨a1, a2, a3, a4, _⟩ := hNm p hp
    exact ⟨a1, a2, a3, a4⟩
  have hTi : Ti B len inp := ⟨h.1.1, h.1.2.1, fun i hi => ⟨(h.1.2.2.2 i hi).1, (h.1.2.2.2 i hi).2.1⟩⟩
  have he : fnx (nmb ln y B s e) NP 0 = fnx (fun p => decide (M.2.2.1 38 p = lN (sp (fun i => B (s + i)) (e - s)))) NP 0 := fnx_cong fun p _ hp => nmb_val (M := ((fun _ => 0), (fun _ _ => 0), (fun _ => M.2.2.1 38), (fun _ => 0))) hNr (show p < NP by omega) (hNm p (by omega)).2.2.2.2 (h.2.2.1 k4) h.2.1.1 q6
  refine ⟨fnx (nmb ln y B s e) NP 0, ?_, ?_, fun p hp => by have := (fnx_some hp).2.1; omega, k4, q6, h30⟩
  · rw [h.2.2.2.2.1.1, h.2.2.2.2.1.2.1]
    exact c_processNamed hNr hr1 hNP hTi h.2.1.1 h.2.1.2.1 hn
  · rw [h34, indexOfF hNP (by omega), h30, ← he]
/-- an owner -/
theorem rdOwner {s e : Nat} (h : AL B len inp s e rd M) (hN : Nd NP rr M) (hr1 : rr.1 1 = nI NP) (h34 : M.1 34 = nI NP) (hNP : NP ≤ 8) (hn : 700 < n) : (∃ rd' M' s' e' p, p < NP ∧ f_X4_readProcess n rd 600 inp rr = some (rd', 1) ∧ rd'.1 9 = nI p ∧ f_X9_readsOwner n M = some (M', nI p) ∧ AL B len inp s' e' rd' M' ∧ s ≤ s' ∧ (∀ j, j < 5 ∨ 9 < j → rd'.1 j = rd.1 j) ∧ rd'.2 = rd.2 ∧ Fn M M') ∨ (∃ rd' M' r, f_X4_readProcess n rd 600 inp rr = some (rd', 0) ∧ f_X9_readsOwner n M = some (M', r) ∧ DD rd' M' ∧ FP M M' ∧ M'.1 34 = M.1 34) := by
  have hA := h.2.2.2.2.2.2.2.2.1
  cases hi : isN B len s e with
  | false =>
    obtain ⟨d1, d2, d3⟩ := h.fail (v := 1) (by decide)
    have hx := indexOfF (n := n) (f := (sI (sI M 31 1) 32 (M.1 26)).2.2.1 38) (v := (sI (sI M 31 1) 32 (M.1 26)).2.2.2 30) hNP (by omega)
    refine Or.inr ⟨_, _, toI (fnx (fun p => decide ((sI (sI M 31 1) 32 (M.1 26)).2.2.1 38 p = (sI (sI M 31 1) 32 (M.1 26)).2.2.2 30)) NP 0), ?_, ?_, d1, d2, d3⟩
    · unfold f_X4_readProcess
      rw [c_isName h, hi, ebnd, if_pos (show bI false = 0 from rfl), c_fail, ebnd2, egZ0]
    · unfold f_X9_readsOwner
      rw [m_isName h, hi, ebnd, show bI false = 0 from rfl, m_needs0 hA, ebnd, d3, h34, hx, ebnd, m_fineD d1.2.2, ebnd, if_pos rfl, m_goOnD d1.2.2, ebnd]
  | true =>
    obtain ⟨o, o1, o2, o3, _⟩ := nameIn h hi hN hr1 h34 hNP hn
    have hal : AL B len inp s e (sI rd 9 (toI o)) M := by
      obtain ⟨t1, t2, t3, t4, t5, t6, t7, t8, t9⟩ := h
      exact ⟨t1, t2, t3, t4, t5, t6, t7, t8, t9⟩
    cases o with
    | none =>
      obtain ⟨d1, d2, d3⟩ := hal.fail (v := 3) (by decide)
      refine Or.inr ⟨_, _, toI none, ?_, ?_, d1, d2, d3⟩
      · unfold f_X4_readProcess
        rw [c_isName h, hi, ebnd, if_neg (show ¬ bI true = 0 from by decide), o1, ebnd, eLet, sI_s, if_pos (show toI none = -1 from rfl), c_fail, ebnd2, egZ0]
      · unfold f_X9_readsOwner j_X9_readsOwner_43
        rw [m_isName h, hi, ebnd, show bI true = 1 from rfl, m_needs1, ebnd, o2, ebnd, m_fineA hA, ebnd, if_neg (show ¬ (1 : Int32) = 0 from by decide), if_pos (show toI none = -1 from rfl), m_needs0 hA, ebnd, m_goOnD d1.2.2, ebnd]
    | some p =>
      have hp := o3 p rfl
      obtain ⟨rd', M', s', e', a1, a2, a3, a4, a5, a6, a7⟩ := stepBoth hal hn
      refine Or.inl ⟨rd', M', s', e', p, hp, ?_, ?_, ?_, a3, ?_, fun j hj => ?_, a6, a7⟩
      · unfold f_X4_readProcess
        rw [c_isName h, hi, ebnd, if_neg (show ¬ bI true = 0 from by decide), o1, ebnd, eLet, sI_s, if_neg (show ¬ toI (some p) = -1 from nI_m1 p (by omega)), a1, ebnd]
      · rw [a5 9 (by omega), sI_s]
        rfl
      · unfold f_X9_readsOwner j_X9_readsOwner_43
        rw [m_isName h, hi, ebnd, show bI true = 1 from rfl, m_needs1, ebnd, o2, ebnd, m_fineA hA, ebnd, if_neg (show ¬ (1 : Int32) = 0 from by decide), if_neg (show ¬ toI (some p) = -1 from nI_m1 p (by omega)), m_needs1, ebnd, m_goOnA hA, a2, ebnd]
        rfl
      · have := h.2.1.1
        omega
      · rw [a5 j (by omega), sI_o (by omega)]
theorem ownerD (h : M.1 31 ≠ 0) (h34 : M.1 34 = nI NP) (hNP : NP ≤ 8) (hn : 700 < n) : ∃ r, f_X9_readsOwner n M = some (M, r) := by
  have hx := indexOfF (n := n) (f := M.2.2.1 38) (v := M.2.2.2 30) hNP (by omega)
  have hi : ∃ b, f_X9_isName n M = some b := by
    unfold f_X9_isName
    split
    · split
      · split <;> exact ⟨_, rfl⟩
      · exact ⟨_, rfl⟩
    · exact ⟨_, rfl⟩
  obtain ⟨b, hb⟩ := hi
  refine ⟨toI (fnx (fun p => decide (M.2.2.1 38 p = M.2.2.2 30)) NP 0), ?_⟩
  unfold f_X9_readsOwner
  rw [hb, ebnd, m_needsD h, ebnd, h34, hx, ebnd, m_fineD h, ebnd, if_pos rfl, m_goOnD h, ebnd]
end READ
