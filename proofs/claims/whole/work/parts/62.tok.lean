/-! words of the grammar, read by the class and by the model -/
theorem sI_same {c : OS} {j : Nat} {v : Int32} (h : c.1 j = v) : sI c j v = c := by
  unfold sI
  refine Prod.ext ?_ rfl
  funext i
  show (if i = j then v else c.1 i) = c.1 i
  split
  · next e => rw [e, h]
  · rfl
theorem sI_sI (c : OS) (j : Nat) (v w : Int32) : sI (sI c j v) j w = sI c j w := by
  unfold sI
  refine Prod.ext ?_ rfl
  funext i
  show (if i = j then w else if i = j then v else c.1 i) = if i = j then w else c.1 i
  by_cases h : i = j
  · rw [if_pos h, if_pos h]
  · rw [if_neg h, if_neg h, if_neg h]
theorem mtc_down {B : Nat → Nat} {s i : Nat} : ∀ {d k : Nat}, mtc B s i k = false → mtc B s i (k + d) = false
  | 0, _, h => h
  | d + 1, k, h => by
    show (mtc B s i (k + d) && decide (wch i (k + d) = B (s + (k + d)))) = false
    rw [mtc_down h]
    rfl
theorem fwd_succ (B : Nat → Nat) (s e d i : Nat) : fwd B s e (d + 1) i = if mtw B s e i then i else fwd B s e d (i + 1) := rfl
theorem fwd_le (B : Nat → Nat) (s e : Nat) : ∀ d i, i ≤ fwd B s e d i ∧ fwd B s e d i ≤ i + d
  | 0, i => ⟨Nat.le_refl _, Nat.le_refl _⟩
  | d + 1, i => by
    rw [fwd_succ]
    have := fwd_le B s e d (i + 1)
    split <;> omega
theorem wdx_lt (B : Nat → Nat) (s e : Nat) : wdx B s e < 14 := Nat.mod_lt _ (by decide)
theorem slen14 : sLen (14 : Int32) = nI 79 ∧ sLenL.getD (14 : Int32).toNatClampNeg 0 = 79 ∧ wln 0 = 0 := by decide +kernel
section TOK
variable {n len : Nat} {inp rd M : OS} {B : Nat → Nat}
theorem c_word52 (hT : Tx B len inp M) {s e i : Nat} {rc : Int32 → Option Int32} (hi : i < 14) (hl : wln i = e - s) (hse : s ≤ e) (hel : e ≤ len) : ∀ (dd j N : Nat), j + dd = wln i → dd < N → l_X7_standing_52 n 600 inp (nI s) (nI e) 14 (nI i) (nI i) (nI (wln i)) rc N (bI (mtc B s i j)) (nI j) = if mtc B s i (wln i) then some (nI i) else rc (nI (i + 1))
  | 0, j, N, hj, hN => by
    obtain ⟨N', rfl⟩ : ∃ N', N = N' + 1 := ⟨N - 1, by omega⟩
    have : j = wln i := by omega
    subst this
    have w8 := (wln_ok i hi).2.1
    show s_X7_standing_52 n 600 inp (nI s) (nI e) 14 (nI i) (nI i) (nI (wln i)) rc _ (bI (mtc B s i (wln i))) (nI (wln i)) = _
    unfold s_X7_standing_52
    rw [if_pos (Int32.le_refl _), ifz, eLet, nI_1]
  | dd + 1, j, N, hj, hN => by
    obtain ⟨N', rfl⟩ : ∃ N', N = N' + 1 := ⟨N - 1, by omega⟩
    obtain ⟨_, w8, w3⟩ := wln_ok i hi
    have h600 := hT.1
    have hB := (hT.2.2.2 (s + j) (by omega)).1
    obtain ⟨k1, k2, k3⟩ := wch_ok i hi j (by omega)
    show s_X7_standing_52 n 600 inp (nI s) (nI e) 14 (nI i) (nI i) (nI (wln i)) rc (l_X7_standing_52 n 600 inp (nI s) (nI e) 14 (nI i) (nI i) (nI (wln i)) rc N') (bI (mtc B s i j)) (nI j) = _
    unfold s_X7_standing_52
    rw [if_neg (nI_ge (show j < wln i by omega) (by omega)), ifz, ifz]
    cases hm : mtc B s i j with
    | false =>
      have := mtc_down (d := wln i - j) hm
      rw [show j + (wln i - j) = wln i by omega] at this
      rw [this, if_neg (by decide), if_neg (by decide), if_neg (by decide), eLet, nI_1]
    | true =>
      have ih1 := c_word52 (rc := rc) hT hi hl hse hel dd (j + 1) N' (by omega) (by omega)
      have hs : mtc B s i (j + 1) = decide (wch i j = B (s + j)) := by
        show (mtc B s i j && decide (wch i j = B (s + j))) = _
        rw [hm, Bool.true_and]
      rw [if_pos rfl, egN (show i < 14 from hi) (by decide), egN (show i < 15 by omega) (by decide), nI_clamp (by omega), w3, egN (show j < wln i by omega) (by omega), eLet, k1, nI_add, c_at hT (by omega), ebnd, if_pos (show s + j < len by omega), eLet, eLet, nI_1]
      by_cases q : wch i j = B (s + j)
      · rw [if_pos (by rw [q])]
        rw [hs, decide_eq_true q] at ih1
        exact ih1
      · rw [if_neg (fun z => q (nI_inj (by omega) (by omega) z))]
        rw [hs, decide_eq_false q] at ih1
        exact ih1
theorem c_standing (hT : Tx B len inp M) {s e : Nat} (hse : s < e) (hel : e ≤ len) (hn : 100 < n) : f_X7_standing n 600 inp (nI s) (nI e) = some (nI (wdx B s e)) := by
  have h600 := hT.1
  have step : ∀ i N, i < 14 → l_X7_standing_11 n 600 inp (nI s) (nI e) 14 (N + 1) (nI i) = if mtw B s e i then some (nI i) else l_X7_standing_11 n 600 inp (nI s) (nI e) 14 N (nI (i + 1)) := fun i N hi => by
    obtain ⟨w1, w8, w3⟩ := wln_ok i hi
    show s_X7_standing_11 n 600 inp (nI s) (nI e) 14 (l_X7_standing_11 n 600 inp (nI s) (nI e) 14 N) (nI i) = _
    unfold s_X7_standing_11 j_X7_standing_47 mtw
    rw [if_neg (show ¬ (14 : Int32) ≤ nI i from nI_ge (a := i) (b := 14) hi (by decide)), egN (show i < 14 from hi) (by decide), egN (show i < 14 from hi) (by decide), egN (show i < 15 by omega) (by decide), eLet, w1, pk_sub (show s ≤ e by omega)]
    by_cases hl : wln i = e - s
    · rw [if_pos (by rw [hl]), decide_eq_true hl, Bool.true_and]
      exact c_word52 hT hi hl (by omega) hel (wln i) 0 n (by omega) (by omega)
    · rw [if_neg (fun z => hl (nI_inj (by omega) (by omega) z)), decide_eq_false hl, Bool.false_and, if_neg (by decide)]
      obtain ⟨n', rfl⟩ : ∃ n', n = n' + 1 := ⟨n - 1, by omega⟩
      show s_X7_standing_52 (n' + 1) 600 inp (nI s) (nI e) 14 (nI i) (nI i) (nI (wln i)) _ _ 0 0 = _
      unfold s_X7_standing_52
      rw [if_pos (show (0 : Int32) = 0 from rfl), if_pos (show (0 : Int32) = 0 from rfl), eLet, nI_1, ite_self]
  have go : ∀ d i N, i + d = 14 → d < N → l_X7_standing_11 n 600 inp (nI s) (nI e) 14 N (nI i) = some (nI (fwd B s e d i % 14)) := by
    intro d
    induction d with
    | zero =>
      intro i N h1 h2
      obtain ⟨N', rfl⟩ : ∃ N', N = N' + 1 := ⟨N - 1, by omega⟩
      have : i = 14 := by omega
      subst this
      show s_X7_standing_11 n 600 inp (nI s) (nI e) 14 _ (nI 14) = _
      unfold s_X7_standing_11
      rw [if_pos (show (14 : Int32) ≤ nI 14 from Int32.le_refl (14 : Int32)), show fwd B s e 0 14 = 14 from rfl]
      decide
    | succ d ih =>
      intro i N h1 h2
      obtain ⟨N', rfl⟩ : ∃ N', N = N' + 1 := ⟨N - 1, by omega⟩
      rw [step i N' (by omega), fwd_succ, ih (i + 1) N' (by omega) (by omega)]
      cases mtw B s e i
      · rfl
      · rw [if_pos rfl, if_pos rfl, Nat.mod_eq_of_lt (by omega)]
  have h0 : mtw B s e 0 = false := by
    unfold mtw
    rw [slen14.2.2, decide_eq_false (show ¬ 0 = e - s by omega)]
    rfl
  obtain ⟨n', rfl⟩ : ∃ n', n = n' + 1 := ⟨n - 1, by omega⟩
  unfold f_X7_standing wdx
  rw [show (0 : Int32) = nI 0 from rfl, step 0 n' (by omega), h0, if_neg (by decide)]
  exact go 13 1 n' (by omega) (by omega)
theorem m_word102 {i : Nat} {rc : Int32 → Int32 → Option Int32} (hi : i < 13) : ∀ (dd j N : Nat), j + dd = wln (i + 1) → dd < N → l_X9_wordHere_102 n M rc N (nI i) (nI (wof i + j)) = rc (nI (i + 1)) (nI (wof (i + 1)))
  | 0, j, N, hj, hN => by
    obtain ⟨N', rfl⟩ : ∃ N', N = N' + 1 := ⟨N - 1, by omega⟩
    obtain ⟨o1, o2, o3⟩ := wof_ok i hi
    have o4 := wof_le (i + 1) (by omega)
    have : j = wln (i + 1) := by omega
    subst this
    show s_X9_wordHere_102 n M rc _ (nI i) (nI (wof i + wln (i + 1))) = _
    unfold s_X9_wordHere_102
    rw [show gI 15 (14 : Int32) _ = _ from egN (k := 14) (by decide) (by decide), slen14.2.1, egN (show wof i + wln (i + 1) < 79 by omega) (by decide), eLet, o2, if_pos rfl, eLet, eLet, nI_1, nI_1, o1]
  | dd + 1, j, N, hj, hN => by
    obtain ⟨N', rfl⟩ : ∃ N', N = N' + 1 := ⟨N - 1, by omega⟩
    obtain ⟨o1, o2, o3⟩ := wof_ok i hi
    have o4 := wof_le (i + 1) (by omega)
    show s_X9_wordHere_102 n M rc (l_X9_wordHere_102 n M rc N') (nI i) (nI (wof i + j)) = _
    unfold s_X9_wordHere_102
    rw [show gI 15 (14 : Int32) _ = _ from egN (k := 14) (by decide) (by decide), slen14.2.1, egN (show wof i + j < 79 by omega) (by decide), eLet, if_neg (o3 j (by omega)).2, eLet, nI_1]
    exact m_word102 hi dd (j + 1) N' (by omega) (by omega)
theorem m_word16 (hT : Tx B len inp M) {s e i : Nat} {rc : Int32 → Int32 → Option Int32} (hi : i < 13) (h26 : M.1 26 = nI s) (h25 : M.1 25 = nI e) (hse : s < e) (hel : e ≤ len) (hlet : ∀ j, s ≤ j → j < e → 97 ≤ B j ∧ B j ≤ 122) (hn : 100 < n) : ∀ (dd j N : Nat), j + dd = wln (i + 1) → dd < N → mtc B s (i + 1) j = true → j ≤ e - s → l_X9_wordHere_16 n M (nI i) (nI (wof i)) rc N (nI j) = if mtw B s e (i + 1) then some (nI i) else rc (nI (i + 1)) (nI (wof (i + 1))) := by
  have h600 := hT.1
  obtain ⟨o1, o2, o3⟩ := wof_ok i hi
  have o4 := wof_le (i + 1) (by omega)
  have h102 : l_X9_wordHere_102 n M rc n (nI i) (nI (wof i)) = rc (nI (i + 1)) (nI (wof (i + 1))) := m_word102 (n := n) (M := M) (rc := rc) hi (wln (i + 1)) 0 n (by omega) (by omega)
  have h73 : ∀ j, j < wln (i + 1) → j_X9_wordHere_73 n M rc (nI i) (nI (wof i)) (nI j) = rc (nI (i + 1)) (nI (wof (i + 1))) := fun j hj => by
    unfold j_X9_wordHere_73
    rw [show gI 15 (14 : Int32) _ = _ from egN (k := 14) (by decide) (by decide), slen14.2.1, nI_add, egN (show wof i + j < 79 by omega) (by decide), eLet, if_neg (o3 j hj).2, h102]
  intro dd
  induction dd with
  | zero =>
    intro j N hj hN hm hje
    obtain ⟨N', rfl⟩ : ∃ N', N = N' + 1 := ⟨N - 1, by omega⟩
    have : j = wln (i + 1) := by omega
    subst this
    show s_X9_wordHere_16 n M (nI i) (nI (wof i)) rc _ (nI (wln (i + 1))) = _
    unfold s_X9_wordHere_16 j_X9_wordHere_73 mtw
    rw [show gI 15 (14 : Int32) _ = _ from egN (k := 14) (by decide) (by decide), slen14.2.1, nI_add, egN (show wof i + wln (i + 1) < 79 by omega) (by decide), eLet, o2, if_pos rfl, show gI 15 (14 : Int32) _ = _ from egN (k := 14) (by decide) (by decide), egN (show wof i + wln (i + 1) < 79 by omega) (by decide), eLet, if_pos rfl, h26, h25, nI_add, hm, Bool.and_true, h102]
    by_cases q : wln (i + 1) = e - s
    · rw [if_pos (show nI (s + wln (i + 1)) = nI e by rw [show s + wln (i + 1) = e by omega]), decide_eq_true q, if_pos rfl]
    · rw [if_neg (fun z => q (by have := nI_inj (by omega) (by omega) z; omega)), decide_eq_false q, if_neg (by decide)]
  | succ dd ih =>
    intro j N hj hN hm hje
    obtain ⟨N', rfl⟩ : ∃ N', N = N' + 1 := ⟨N - 1, by omega⟩
    have hjl : j < wln (i + 1) := by omega
    obtain ⟨k1, k2, k3⟩ := wch_ok (i + 1) (by omega) j hjl
    show s_X9_wordHere_16 n M (nI i) (nI (wof i)) rc (l_X9_wordHere_16 n M (nI i) (nI (wof i)) rc N') (nI j) = _
    unfold s_X9_wordHere_16
    rw [show gI 15 (14 : Int32) _ = _ from egN (k := 14) (by decide) (by decide), slen14.2.1, nI_add, egN (show wof i + j < 79 by omega) (by decide), eLet, if_neg (o3 j hjl).2, h26, h25, nI_add, h73 j hjl]
    by_cases q : e ≤ s + j
    · have hf : mtw B s e (i + 1) = false := by
        unfold mtw
        rw [decide_eq_false (show ¬ wln (i + 1) = e - s by omega)]
        rfl
      rw [if_pos (nI_le q (by omega)), hf, if_neg (by decide)]
    · have hB := hT.2.2.2 (s + j) (by omega)
      have hl := hlet (s + j) (by omega) (by omega)
      rw [if_neg (nI_ge (show s + j < e by omega) (by omega)), egN (show s + j < 600 by omega) (by decide), eLet, nI_clamp (by omega), hB.2.2, (by8_ok _ hB.1).2.1 (by omega), show gI 15 (14 : Int32) _ = _ from egN (k := 14) (by decide) (by decide), egN (show wof i + j < 79 by omega) (by decide), eLet, (o3 j hjl).1, eLet, nI_1]
      by_cases r : wch (i + 1) j = B (s + j)
      · rw [if_pos (by rw [r])]
        exact ih (j + 1) N' (by omega) (by omega) (by show (mtc B s (i + 1) j && decide (wch (i + 1) j = B (s + j))) = true; rw [hm, decide_eq_true r]; rfl) (by omega)
      · have hf : mtw B s e (i + 1) = false := by
          have h1 : mtc B s (i + 1) (j + 1) = false := by
            show (mtc B s (i + 1) j && decide (wch (i + 1) j = B (s + j))) = false
            rw [decide_eq_false r, Bool.and_false]
          have h2 := mtc_down (d := wln (i + 1) - (j + 1)) h1
          rw [show j + 1 + (wln (i + 1) - (j + 1)) = wln (i + 1) by omega] at h2
          unfold mtw
          rw [h2, Bool.and_false]
        rw [if_neg (fun z => r (nI_inj (by omega) (by omega) z).symm), hf, if_neg (by decide)]
theorem m_wordHere (hT : Tx B len inp M) {s e : Nat} (h26 : M.1 26 = nI s) (h25 : M.1 25 = nI e) (hse : s < e) (hel : e ≤ len) (hlet : ∀ j, s ≤ j → j < e → 97 ≤ B j ∧ B j ≤ 122) (hn : 100 < n) : f_X9_wordHere n M = some (nI (wdx B s e) - 1) := by
  have go : ∀ d i N, i + d = 13 → d < N → l_X9_wordHere_4 n M N (nI i) (nI (wof i)) = some (nI (fwd B s e d (i + 1) % 14) - 1) := by
    intro d
    induction d with
    | zero =>
      intro i N h1 h2
      obtain ⟨N', rfl⟩ : ∃ N', N = N' + 1 := ⟨N - 1, by omega⟩
      have : i = 13 := by omega
      subst this
      show s_X9_wordHere_4 n M _ (nI 13) (nI (wof 13)) = _
      unfold s_X9_wordHere_4
      rw [show gI 15 (14 : Int32) _ = _ from egN (k := 14) (by decide) (by decide), eLet, slen14.1, if_pos (show nI 79 ≤ nI (wof 13) from Int32.le_refl (nI 79)), show fwd B s e 0 (13 + 1) = 14 from rfl]
      decide
    | succ d ih =>
      intro i N h1 h2
      obtain ⟨N', rfl⟩ : ∃ N', N = N' + 1 := ⟨N - 1, by omega⟩
      obtain ⟨o1, o2, o3⟩ := wof_ok i (by omega)
      have o4 := wof_le (i + 1) (by omega)
      have w8 := (wln_ok (i + 1) (by omega)).2.1
      show s_X9_wordHere_4 n M (l_X9_wordHere_4 n M N') (nI i) (nI (wof i)) = _
      unfold s_X9_wordHere_4
      rw [show gI 15 (14 : Int32) _ = _ from egN (k := 14) (by decide) (by decide), eLet, slen14.1, if_neg (nI_ge (show wof i < 79 by omega) (by decide))]
      have hw := m_word16 (n := n) (rc := l_X9_wordHere_4 n M N') hT (show i < 13 by omega) h26 h25 hse hel hlet hn (wln (i + 1)) 0 n (by omega) (by omega) rfl (by omega)
      rw [show l_X9_wordHere_16 n M (nI i) (nI (wof i)) (l_X9_wordHere_4 n M N') n (0 : Int32) = _ from hw, fwd_succ, ih (i + 1) N' (by omega) (by omega)]
      cases mtw B s e (i + 1)
      · rfl
      · rw [if_pos rfl, if_pos rfl, Nat.mod_eq_of_lt (by omega), nI_pred]
  exact go 13 0 n (by omega) (by omega)
end TOK
