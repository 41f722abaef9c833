/-! the drafts of the rules and of the court, on both sides -/
section DRAFT
variable {n len P NP E Bs F Pt Ap LC CC w : Nat} {inp rd rr fo M : OS} {B : Nat → Nat}
/-- the drafts' rules -/
def Ud (P NP E Bs F Pt Ap : Nat) (rr M : OS) : Prop := (rr.1 0 = nI P ∧ rr.1 1 = nI NP ∧ rr.1 2 = nI E ∧ rr.1 3 = nI Bs ∧ rr.1 4 = nI F ∧ rr.1 5 = nI Pt ∧ rr.1 6 = nI Ap) ∧ (M.1 33 = nI P ∧ M.1 34 = nI NP ∧ M.2.1 37 0 = nI E ∧ M.2.1 37 1 = nI Bs ∧ M.2.1 37 2 = nI F ∧ M.2.1 37 3 = nI Pt ∧ M.2.1 37 4 = nI Ap) ∧ 4 ≤ P ∧ P ≤ 64 ∧ NP ≤ 8 ∧ 1 ≤ E ∧ E ≤ 50 ∧ 1 ≤ Bs ∧ Bs ≤ 100 ∧ 1 ≤ F ∧ F ≤ 99 ∧ 1 ≤ Pt ∧ Pt ≤ 20 ∧ Ap ≤ 99
/-- the drafts with their numbers named -/
def Dx (P NP E Bs F Pt Ap LC CC w : Nat) (rd rr fo M : OS) : Prop := Ud P NP E Bs F Pt Ap rr M ∧ Nd NP rr M ∧ RR P NP 2100 0 LC CC 0 fo (M.2.1 10) ∧ LC ≤ 20 ∧ w < 64 ∧ rd.1 11 = nI w ∧ M.1 35 = nI w ∧ M.1 36 = nI (pc (M.2.1 10) P (-1))
def DR (rd rr fo M : OS) : Prop := ∃ P NP E Bs F Pt Ap LC CC w, Dx P NP E Bs F Pt Ap LC CC w rd rr fo M
theorem Dx.dr (h : Dx P NP E Bs F Pt Ap LC CC w rd rr fo M) : DR rd rr fo M := ⟨P, NP, E, Bs, F, Pt, Ap, LC, CC, w, h⟩
theorem Dx.fn {rd' M' : OS} (h : Dx P NP E Bs F Pt Ap LC CC w rd rr fo M) (hr : rd'.1 11 = rd.1 11) (hf : Fn M M') : Dx P NP E Bs F Pt Ap LC CC w rd' rr fo M' := by
  obtain ⟨⟨h1, h2, h3⟩, hN, hR, hL, hw, h11, h35, h36⟩ := h
  obtain ⟨f1, f2, f3⟩ := hf
  refine ⟨⟨h1, ?_, h3⟩, ?_, ?_, hL, hw, hr.trans h11, ?_, ?_⟩
  · rw [f1 33 (by omega), f1 34 (by omega), f2]
    exact h2
  · unfold Nd
    rw [f3]
    exact hN
  · rw [f2]
    exact hR
  · rw [f1 35 (by omega)]
    exact h35
  · rw [f1 36 (by omega), f2]
    exact h36
theorem AL.a {s e : Nat} (h : AL B len inp s e rd M) : M.1 31 = 0 := h.2.2.2.2.2.2.2.2.1
/-- the word that stands at s, 0 for none -/
def wd (B : Nat → Nat) (len s e : Nat) : Nat := if kd B len s = 4 then wdx B s e else 0
theorem wd_lt (B : Nat → Nat) (len s e : Nat) : wd B len s e < 14 := by
  have := wdx_lt B s e
  unfold wd
  split <;> omega
theorem wd_kd {s e : Nat} (h : wd B len s e ≠ 0) : kd B len s = 4 := by
  unfold wd at h
  by_cases q : kd B len s = 4
  · exact q
  · rw [if_neg q] at h
    exact absurd rfl h
theorem AL.word {s e : Nat} (h : AL B len inp s e rd M) : rd.1 8 = nI (wd B len s e) := h.2.2.2.2.1.2.2.2
theorem AL.mw {s e : Nat} (h : AL B len inp s e rd M) (hw : wd B len s e ≠ 0) : M.1 27 = nI 1 ∧ M.1 28 = nI (wd B len s e) - 1 := by
  have k4 := wd_kd hw
  have e1 : wd B len s e = wdx B s e := if_pos k4
  rw [e1]
  exact ⟨by rw [h.2.2.2.2.2.1.2.2.1, mk1.mpr k4], (h.2.2.2.2.2.1.2.2.2.1 k4).1⟩
theorem AL.mn {s e : Nat} (h : AL B len inp s e rd M) (hk : kd B len s ≠ 4) : ¬ M.1 27 = (1 : Int32) := fun z => by
  have m4 := mk_le (B := B) (len := len) s e
  rw [h.2.2.2.2.2.1.2.2.1] at z
  exact hk (mk1.mp (nI_inj (b := 1) (by omega) (by decide) z))
theorem m_isWord {s e k : Nat} {v : Int32} (h : AL B len inp s e rd M) (hv : v = nI k) (hk : k < 13) : f_X9_isWord n M v = some (bI (decide (wd B len s e = k + 1))) := by
  have w14 := wd_lt B len s e
  subst hv
  unfold f_X9_isWord
  rw [m_fineA h.a, ebnd, if_neg (show ¬ (1 : Int32) = 0 from by decide)]
  by_cases q : kd B len s = 4
  · obtain ⟨h28, _⟩ := h.2.2.2.2.2.1.2.2.2.1 q
    have e1 : wd B len s e = wdx B s e := if_pos q
    rw [h.2.2.2.2.2.1.2.2.1, mk1.mpr q, if_pos (show nI 1 = (1 : Int32) from rfl), h28, e1]
    rw [e1] at w14
    by_cases q2 : wdx B s e = k + 1
    · rw [q2, nI_pred, if_pos rfl, decide_eq_true rfl]
      rfl
    · rw [decide_eq_false q2, if_neg (fun z => q2 ?_)]
      · rfl
      · by_cases q3 : wdx B s e = 0
        · rw [q3] at z
          exact absurd z.symm (nI_m1 k (by omega))
        · obtain ⟨j, hj⟩ : ∃ j, wdx B s e = j + 1 := ⟨wdx B s e - 1, by omega⟩
          rw [hj, nI_pred] at z
          rw [hj, nI_inj (by omega) (by omega) z]
  · have e1 : wd B len s e = 0 := if_neg q
    rw [if_neg (h.mn q), e1, decide_eq_false (show ¬ 0 = k + 1 by omega)]
    rfl
/-- a wrong name's test never stops -/
theorem isNameSome : ∃ b, f_X9_isName n M = some b := by
  unfold f_X9_isName
  split
  · split
    · split <;> exact ⟨_, rfl⟩
    · exact ⟨_, rfl⟩
  · exact ⟨_, rfl⟩
/-! a process is added -/
theorem c_addP_loop {s e : Nat} (hT : Tx B len inp M) (hse : s ≤ e) (hel : e ≤ len) (h6 : e - s ≤ 6) (hNP : NP < 8) : ∀ (d i N : Nat) (th : OS), i + d = e - s → d < N → th.1 1 = nI NP → (∀ k, k < i → th.2.1 7 (7 * NP + k) = nI (B (s + k))) → ∃ r2, l_X5_addProcess_3 n 600 inp (nI s) (nI e) N th (nI (s + i)) = some r2 ∧ r2.1 1 = nI (NP + 1) ∧ (∀ j, j ≠ 1 → r2.1 j = th.1 j) ∧ (∀ k, k < e - s → r2.2.1 7 (7 * NP + k) = nI (B (s + k))) ∧ r2.2.1 7 (7 * NP + 6) = nI (e - s) ∧ (∀ k, k < 7 * NP → r2.2.1 7 k = th.2.1 7 k)
  | 0, i, N, th, hi, hN, h1, hk => by
    obtain ⟨N', rfl⟩ : ∃ N', N = N' + 1 := ⟨N - 1, by omega⟩
    have h600 := hT.1
    have e1 : f_X6_set n (7 : Int32) 56 (th.2.1 7) (nI NP) (6 : Int32) (nI (e - s)) = some (upd (th.2.1 7) (7 * NP + 6) (nI (e - s))) := tset (cc := 7) (z := 56) (v := NP) (j := 6) (7 * NP + 6) (by omega) (by omega) (by decide)
    refine ⟨sI (sA th 7 (upd (th.2.1 7) (7 * NP + 6) (nI (e - s)))) 1 (nI (NP + 1)), ?_, sI_s, fun j hj => sI_o hj, fun k hk2 => ?_, ?_, fun k hk2 => ?_⟩
    · show s_X5_addProcess_3 n 600 inp (nI s) (nI e) _ th (nI (s + i)) = _
      unfold s_X5_addProcess_3 j_X5_addProcess_36
      rw [if_pos (nI_le (show e ≤ s + i by omega) (by omega)), h1, pk_sub hse, e1, ebnd, eLet, sA_1, h1, nI_1, eLet]
    · rw [sI_2, sA_get, upd_n (by omega)]
      exact hk k (by omega)
    · rw [sI_2, sA_get, upd_s]
    · rw [sI_2, sA_get, upd_n (by omega)]
  | d + 1, i, N, th, hi, hN, h1, hk => by
    obtain ⟨N', rfl⟩ : ∃ N', N = N' + 1 := ⟨N - 1, by omega⟩
    have h600 := hT.1
    have e1 : f_X6_set n (7 : Int32) 56 (th.2.1 7) (nI NP) (nI i) (nI (B (s + i))) = some (upd (th.2.1 7) (7 * NP + i) (nI (B (s + i)))) := tset (cc := 7) (z := 56) (v := NP) (j := i) (7 * NP + i) (by omega) (by omega) (by decide)
    obtain ⟨r2, q1, q2, q3, q4, q5, q6⟩ := c_addP_loop hT hse hel h6 hNP d (i + 1) N' (sA th 7 (upd (th.2.1 7) (7 * NP + i) (nI (B (s + i))))) (by omega) (by omega) h1 (fun k hk2 => by
      rw [sA_get]
      by_cases z : k = i
      · rw [z, upd_s]
      · rw [upd_n (by omega)]
        exact hk k (by omega))
    refine ⟨r2, ?_, q2, q3, q4, q5, fun k hk2 => ?_⟩
    · show s_X5_addProcess_3 n 600 inp (nI s) (nI e) (l_X5_addProcess_3 n 600 inp (nI s) (nI e) N') th (nI (s + i)) = _
      unfold s_X5_addProcess_3
      rw [if_neg (nI_ge (show s + i < e by omega) (by omega)), c_at hT (by omega), ebnd, if_pos (show s + i < len by omega), h1, pk_sub (show s ≤ s + i by omega), show s + i - s = i by omega, e1, ebnd, eLet, nI_1, eLet]
      exact q1
    · rw [q6 k hk2, sA_get, upd_n (by omega)]
theorem c_addProcess {s e : Nat} (hT : Tx B len inp M) (hse : s ≤ e) (hel : e ≤ len) (h6 : e - s ≤ 6) (hNP : NP < 8) (h1 : rr.1 1 = nI NP) (hn : 700 < n) : ∃ r2, f_X5_addProcess n rr 600 inp (nI s) (nI e) = some r2 ∧ r2.1 1 = nI (NP + 1) ∧ (∀ j, j ≠ 1 → r2.1 j = rr.1 j) ∧ (∀ k, k < e - s → r2.2.1 7 (7 * NP + k) = nI (B (s + k))) ∧ r2.2.1 7 (7 * NP + 6) = nI (e - s) ∧ (∀ k, k < 7 * NP → r2.2.1 7 k = rr.2.1 7 k) := c_addP_loop hT hse hel h6 hNP (e - s) 0 n rr (by omega) (by omega) h1 (fun k hk => absurd hk (by omega))
/-- one more process in the drafts' names -/
theorem Nd.add {s e : Nat} {r2 M' : OS} (h : Nd NP rr M) (hB : ∀ i, s ≤ i → i < e → 97 ≤ B i ∧ B i ≤ 122) (hse : s < e) (h6 : e - s ≤ 6) (q4 : ∀ k, k < e - s → r2.2.1 7 (7 * NP + k) = nI (B (s + k))) (q5 : r2.2.1 7 (7 * NP + 6) = nI (e - s)) (q6 : ∀ k, k < 7 * NP → r2.2.1 7 k = rr.2.1 7 k) (h1 : M'.2.2.1 38 NP = lN (sp (fun i => B (s + i)) (e - s))) (h2 : ∀ p, p < NP → M'.2.2.1 38 p = M.2.2.1 38 p) : Nd (NP + 1) r2 M' := by
  obtain ⟨ln, y, hy⟩ := h
  refine ⟨fun p => if p = NP then e - s else ln p, fun p => if p = NP then (fun i => B (s + i)) else y p, fun p hp => ?_⟩
  by_cases z : p = NP
  · subst z
    show 1 ≤ (if p = p then e - s else ln p) ∧ (if p = p then e - s else ln p) ≤ 6 ∧ (∀ i, i < (if p = p then e - s else ln p) → 97 ≤ (if p = p then (fun i => B (s + i)) else y p) i ∧ (if p = p then (fun i => B (s + i)) else y p) i ≤ 122 ∧ r2.2.1 7 (7 * p + i) = nI ((if p = p then (fun i => B (s + i)) else y p) i)) ∧ r2.2.1 7 (7 * p + 6) = nI (if p = p then e - s else ln p) ∧ M'.2.2.1 38 p = lN (sp (if p = p then (fun i => B (s + i)) else y p) (if p = p then e - s else ln p))
    rw [if_pos rfl, if_pos rfl]
    exact ⟨by omega, h6, fun i hi => ⟨(hB (s + i) (by omega) (by omega)).1, (hB (s + i) (by omega) (by omega)).2, q4 i hi⟩, q5, h1⟩
  · show 1 ≤ (if p = NP then e - s else ln p) ∧ (if p = NP then e - s else ln p) ≤ 6 ∧ (∀ i, i < (if p = NP then e - s else ln p) → 97 ≤ (if p = NP then (fun i => B (s + i)) else y p) i ∧ (if p = NP then (fun i => B (s + i)) else y p) i ≤ 122 ∧ r2.2.1 7 (7 * p + i) = nI ((if p = NP then (fun i => B (s + i)) else y p) i)) ∧ r2.2.1 7 (7 * p + 6) = nI (if p = NP then e - s else ln p) ∧ M'.2.2.1 38 p = lN (sp (if p = NP then (fun i => B (s + i)) else y p) (if p = NP then e - s else ln p))
    rw [if_neg z, if_neg z]
    obtain ⟨a1, a2, a3, a4, a5⟩ := hy p (by omega)
    refine ⟨a1, a2, fun i hi => ⟨(a3 i hi).1, (a3 i hi).2.1, ?_⟩, ?_, ?_⟩
    · rw [q6 _ (by omega)]
      exact (a3 i hi).2.2
    · rw [q6 _ (by omega)]
      exact a4
    · rw [h2 p (by omega)]
      exact a5
theorem R0.moreN {D K T FC : Nat} {c : OS} {m : Nat → Int32} (h : R0 P NP D K T LC CC FC c m) : R0 P (NP + 1) D K T LC CC FC c m := by
  obtain ⟨h0, h1, h2, h3, h4, h5, h6, h7, h8⟩ := h
  refine ⟨h0, h1, h2, h3, h4, fun l hl => ⟨?_, (h5 l hl).2⟩, fun q hq => ⟨?_, (h6 q hq).2⟩, h7, fun r hr hf => ⟨?_, (h8 r hr hf).2⟩⟩
  · obtain ⟨p, p1, p2⟩ := (h5 l hl).1
    exact ⟨p, by omega, p2⟩
  · obtain ⟨p, p1, p2⟩ := (h6 q hq).1
    exact ⟨p, by omega, p2⟩
  · obtain ⟨p, p1, p2⟩ := (h8 r hr hf).1
    exact ⟨p, by omega, p2⟩
theorem R0.lowK {D K K' T FC : Nat} {c : OS} {m : Nat → Int32} (h : R0 P NP D K T LC CC FC c m) (hL : LC ≤ K') : R0 P NP D K' T LC CC FC c m := by
  obtain ⟨h0, h1, h2, h3, h4, h5, h6, ⟨h7, h8, h9⟩, h10⟩ := h
  exact ⟨h0, h1, h2, h3, h4, h5, h6, ⟨h7, h8, by omega⟩, h10⟩
end DRAFT
