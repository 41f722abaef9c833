/-! from token to token -/
/-- the value of the first digits -/
def vl (B : Nat → Nat) (s : Nat) : Nat → Nat
  | 0 => 0
  | j + 1 => 10 * vl B s j + (B (s + j) - 48)
/-- the model's kind of a token -/
def mk (B : Nat → Nat) (len s e : Nat) : Nat := if kd B len s = 0 then 0 else if kd B len s = 4 then 1 else if kd B len s = 5 then (if e - s ≤ 3 then 2 else 4) else if kd B len s = 3 then 3 else 4
/-- s to e is the token behind e0 -/
def Tkn (B : Nat → Nat) (len e0 s e : Nat) : Prop := e0 ≤ len ∧ s = tS B len e0 ∧ e = tE B len e0
def TC (B : Nat → Nat) (len s e : Nat) (rd : OS) : Prop := rd.1 6 = nI s ∧ rd.1 7 = nI e ∧ rd.1 5 = nI (kd B len s) ∧ rd.1 8 = nI (if kd B len s = 4 then wdx B s e else 0)
def TM (B : Nat → Nat) (len s e : Nat) (M : OS) : Prop := M.1 26 = nI s ∧ M.1 25 = nI e ∧ M.1 27 = nI (mk B len s e) ∧ (kd B len s = 4 → M.1 28 = nI (wdx B s e) - 1 ∧ M.2.2.2 30 = lN (sp (fun i => B (s + i)) (min (e - s) 6))) ∧ (kd B len s = 5 → M.1 29 = nI (vl B s (min (e - s) 3)))
/-- what a step from token to token leaves alone in the model -/
def Fn (M M' : OS) : Prop := (∀ j, j < 25 ∨ 29 < j → M'.1 j = M.1 j) ∧ M'.2.1 = M.2.1 ∧ M'.2.2.1 = M.2.2.1
theorem Fn.rf (M : OS) : Fn M M := ⟨fun _ _ => rfl, rfl, rfl⟩
theorem Fn.tr {M M1 M2 : OS} (h : Fn M M1) (h2 : Fn M1 M2) : Fn M M2 := ⟨fun j a => (h2.1 j a).trans (h.1 j a), h2.2.1.trans h.2.1, h2.2.2.trans h.2.2⟩
theorem Fn.set (M : OS) {j : Nat} (v : Int32) (hj : 25 ≤ j ∧ j ≤ 29) : Fn M (sI M j v) := ⟨fun i hi => sI_o (by omega), rfl, rfl⟩
section ADV
variable {n len : Nat} {inp rd M : OS} {B : Nat → Nat}
theorem Tx.fr {M' : OS} (h : Tx B len inp M) (h1 : M'.1 24 = M.1 24) (h2 : M'.2.1 22 = M.2.1 22) : Tx B len inp M' := by
  obtain ⟨a1, a2, a3, a4⟩ := h
  exact ⟨a1, a2, by rw [h1]; exact a3, by rw [h2]; exact a4⟩
theorem Tx.fn {M' : OS} (h : Tx B len inp M) (hf : Fn M M') : Tx B len inp M' := h.fr (hf.1 24 (by omega)) (by rw [hf.2.1])
theorem c_skip (hT : Tx B len inp M) : ∀ (d i N : Nat) (th : OS), i + d = len → d < N → th.1 6 = nI i → l_X4_advance_13 n 600 inp N th (nI i) = j_X4_advance_46 n 600 inp (sI th 6 (nI (skp B len d i)))
  | 0, i, N, th, hi, hN, h6 => by
    obtain ⟨N', rfl⟩ : ∃ N', N = N' + 1 := ⟨N - 1, by omega⟩
    have h600 := hT.1
    show s_X4_advance_13 n 600 inp _ th (nI i) = j_X4_advance_46 n 600 inp (sI th 6 (nI i))
    unfold s_X4_advance_13
    rw [hT.2.1, if_pos (nI_le (by omega) (by omega)), sI_same h6]
  | d + 1, i, N, th, hi, hN, h6 => by
    obtain ⟨N', rfl⟩ : ∃ N', N = N' + 1 := ⟨N - 1, by omega⟩
    have h600 := hT.1
    have k5 := kd_le B len i
    show s_X4_advance_13 n 600 inp (l_X4_advance_13 n 600 inp N') th (nI i) = j_X4_advance_46 n 600 inp (sI th 6 (nI (if kd B len i = 1 then skp B len d (i + 1) else i)))
    unfold s_X4_advance_13
    rw [hT.2.1, if_neg (nI_ge (show i < len by omega) (by omega)), c_kindAt hT (by omega), ebnd]
    by_cases q : kd B len i = 1
    · rw [q, if_pos (show nI 1 = (1 : Int32) from rfl), if_pos rfl, eLet, eLet, nI_1, c_skip hT d (i + 1) N' (sI th 6 (nI (i + 1))) (by omega) (by omega) sI_s, sI_sI]
    · rw [if_neg (show ¬ nI (kd B len i) = (1 : Int32) from fun z => q (nI_inj (b := 1) (by omega) (by decide) z)), if_neg q, sI_same h6]
theorem c_runs (hT : Tx B len inp M) {k : Nat} (hk : k ≤ 5) : ∀ (d i N : Nat) (th : OS), i + d = len → d < N → th.1 7 = nI i → th.1 5 = nI k → l_X4_advance_103 n 600 inp N th (nI i) = j_X4_advance_139 n 600 inp (sI th 7 (nI (rne B len k d i)))
  | 0, i, N, th, hi, hN, h7, h5 => by
    obtain ⟨N', rfl⟩ : ∃ N', N = N' + 1 := ⟨N - 1, by omega⟩
    have h600 := hT.1
    show s_X4_advance_103 n 600 inp _ th (nI i) = j_X4_advance_139 n 600 inp (sI th 7 (nI i))
    unfold s_X4_advance_103
    rw [hT.2.1, if_pos (nI_le (by omega) (by omega)), sI_same h7]
  | d + 1, i, N, th, hi, hN, h7, h5 => by
    obtain ⟨N', rfl⟩ : ∃ N', N = N' + 1 := ⟨N - 1, by omega⟩
    have h600 := hT.1
    have k5 := kd_le B len i
    show s_X4_advance_103 n 600 inp (l_X4_advance_103 n 600 inp N') th (nI i) = j_X4_advance_139 n 600 inp (sI th 7 (nI (if kd B len i = k then rne B len k d (i + 1) else i)))
    unfold s_X4_advance_103
    rw [hT.2.1, if_neg (nI_ge (show i < len by omega) (by omega)), c_kindAt hT (by omega), ebnd, h5]
    by_cases q : kd B len i = k
    · rw [q, if_pos rfl, if_pos rfl, eLet, eLet, nI_1, c_runs hT hk d (i + 1) N' (sI th 7 (nI (i + 1))) (by omega) (by omega) sI_s (by rw [sI_o (by decide), h5]), sI_sI]
    · rw [if_neg (fun z => q (nI_inj (by omega) (by omega) z)), if_neg q, sI_same h7]
theorem tE_run {e0 : Nat} (h : kd B len (tS B len e0) = 4 ∨ kd B len (tS B len e0) = 5) : tE B len e0 = rne B len (kd B len (tS B len e0)) (len - (tS B len e0 + 1)) (tS B len e0 + 1) := by
  unfold tE
  rw [if_neg (by omega), if_pos h]
theorem tE_one {e0 : Nat} (h : kd B len (tS B len e0) ≠ 0) (h4 : kd B len (tS B len e0) ≠ 4) (h5 : kd B len (tS B len e0) ≠ 5) : tE B len e0 = tS B len e0 + 1 := by
  unfold tE
  rw [if_neg h, if_neg (by omega)]
theorem tE_end {e0 : Nat} (h : kd B len (tS B len e0) = 0) : tE B len e0 = tS B len e0 := by
  unfold tE
  rw [if_pos h]
theorem tkn_lt {s : Nat} (h : kd B len s ≠ 0) : s < len := by
  rcases Nat.lt_or_ge s len with z | z
  · exact z
  · exact absurd (kd_0.mpr z) h
theorem c_advance (hT : Tx B len inp M) (hn : 700 < n) {e0 : Nat} (he : e0 ≤ len) (h7 : rd.1 7 = nI e0) : ∃ rd', f_X4_advance n rd 600 inp = some rd' ∧ TC B len (tS B len e0) (tE B len e0) rd' ∧ (∀ j, j < 5 ∨ 8 < j → rd'.1 j = rd.1 j) ∧ rd'.2 = rd.2 := by
  have h600 := hT.1
  obtain ⟨s1, s2⟩ := tS_le (B := B) he
  have hnb := tS_nb (B := B) he
  have k5 := kd_le B len (tS B len e0)
  have hsk : f_X4_advance n rd 600 inp = j_X4_advance_46 n 600 inp (sI (sI rd 6 (nI e0)) 6 (nI (tS B len e0))) := by
    unfold f_X4_advance
    rw [h7, eLet, sI_o (show (7 : Nat) ≠ 6 by decide), h7, eLet]
    exact c_skip hT (len - e0) e0 n _ (by omega) (by omega) sI_s
  rw [sI_sI] at hsk
  generalize hs : tS B len e0 = s at *
  have h46 : j_X4_advance_46 n 600 inp (sI rd 6 (nI s)) = j_X4_advance_79 n 600 inp (sI (sI rd 6 (nI s)) 5 (nI (kd B len s))) (if kd B len s = 0 then nI s else nI (s + 1)) := by
    unfold j_X4_advance_46
    rw [sI_s, c_kindAt hT (by omega), ebnd, eLet, sI_s, sI_o (show (6 : Nat) ≠ 5 by decide), sI_s, nI_1]
    by_cases q : kd B len s = 0
    · rw [q, if_pos (show nI 0 = (0 : Int32) from rfl), if_pos rfl]
    · rw [if_neg (nI_ne0 (by omega) (by omega)), if_neg q]
  have fr : ∀ (v a : Int32), (∀ j, j < 5 ∨ 8 < j → (sI (sI (sI (sI rd 6 (nI s)) 5 (nI (kd B len s))) 7 v) 8 a).1 j = rd.1 j) ∧ (sI (sI (sI (sI rd 6 (nI s)) 5 (nI (kd B len s))) 7 v) 8 a).2 = rd.2 := fun v a => ⟨fun j hj => by rw [sI_o (by omega), sI_o (by omega), sI_o (by omega), sI_o (by omega)], rfl⟩
  rw [hsk, h46]
  by_cases k0 : kd B len s = 0
  · have hE : tE B len e0 = s := by rw [tE_end (by rw [hs]; exact k0), hs]
    rw [if_pos k0, hE]
    refine ⟨sI (sI (sI (sI rd 6 (nI s)) 5 (nI (kd B len s))) 7 (nI s)) 8 0, ?_, ⟨rfl, rfl, rfl, ?_⟩, fr _ _⟩
    · unfold j_X4_advance_79 j_X4_advance_139
      rw [eLet, show (sI (sI (sI rd 6 (nI s)) 5 (nI (kd B len s))) 7 (nI s)).1 5 = nI 0 from by rw [k0]; rfl, if_neg (show ¬ nI 0 = (4 : Int32) from by decide), if_neg (show ¬ nI 0 = (5 : Int32) from by decide), if_neg (show ¬ nI 0 = (4 : Int32) from by decide), eLet]
    · rw [if_neg (show ¬ kd B len s = 4 by omega)]
      rfl
  · have hsl := tkn_lt k0
    rw [if_neg k0]
    by_cases k45 : kd B len s = 4 ∨ kd B len s = 5
    · have hE : tE B len e0 = rne B len (kd B len s) (len - (s + 1)) (s + 1) := by rw [tE_run (by rw [hs]; exact k45), hs]
      have hg := rne_ge B len (kd B len s) (len - (s + 1)) (s + 1)
      have hrun : j_X4_advance_98 n 600 inp (sI (sI (sI rd 6 (nI s)) 5 (nI (kd B len s))) 7 (nI (s + 1))) = j_X4_advance_139 n 600 inp (sI (sI (sI rd 6 (nI s)) 5 (nI (kd B len s))) 7 (nI (tE B len e0))) := by
        unfold j_X4_advance_98
        rw [sI_s, eLet, c_runs hT k5 (len - (s + 1)) (s + 1) n _ (by omega) (by omega) sI_s rfl, sI_sI, hE]
      rw [← hE] at hg
      rcases k45 with k4 | k4
      · refine ⟨sI (sI (sI (sI rd 6 (nI s)) 5 (nI (kd B len s))) 7 (nI (tE B len e0))) 8 (nI (wdx B s (tE B len e0))), ?_, ⟨rfl, rfl, rfl, ?_⟩, fr _ _⟩
        · unfold j_X4_advance_79
          rw [eLet, show (sI (sI (sI rd 6 (nI s)) 5 (nI (kd B len s))) 7 (nI (s + 1))).1 5 = nI 4 from by rw [k4]; rfl, if_pos (show nI 4 = (4 : Int32) from rfl), hrun]
          unfold j_X4_advance_139
          rw [show (sI (sI (sI rd 6 (nI s)) 5 (nI (kd B len s))) 7 (nI (tE B len e0))).1 5 = nI 4 from by rw [k4]; rfl, if_pos (show nI 4 = (4 : Int32) from rfl), show (sI (sI (sI rd 6 (nI s)) 5 (nI (kd B len s))) 7 (nI (tE B len e0))).1 6 = nI s from rfl, sI_s, c_standing hT (by omega) (by omega) (by omega), ebnd, eLet]
        · rw [if_pos k4]
          rfl
      · refine ⟨sI (sI (sI (sI rd 6 (nI s)) 5 (nI (kd B len s))) 7 (nI (tE B len e0))) 8 0, ?_, ⟨rfl, rfl, rfl, ?_⟩, fr _ _⟩
        · unfold j_X4_advance_79
          rw [eLet, show (sI (sI (sI rd 6 (nI s)) 5 (nI (kd B len s))) 7 (nI (s + 1))).1 5 = nI 5 from by rw [k4]; rfl, if_neg (show ¬ nI 5 = (4 : Int32) from by decide), if_pos (show nI 5 = (5 : Int32) from rfl), hrun]
          unfold j_X4_advance_139
          rw [show (sI (sI (sI rd 6 (nI s)) 5 (nI (kd B len s))) 7 (nI (tE B len e0))).1 5 = nI 5 from by rw [k4]; rfl, if_neg (show ¬ nI 5 = (4 : Int32) from by decide), eLet]
        · rw [if_neg (show ¬ kd B len s = 4 by omega)]
          rfl
    · have hE : tE B len e0 = s + 1 := by rw [tE_one (by rw [hs]; exact k0) (by rw [hs]; omega) (by rw [hs]; omega), hs]
      rw [hE]
      refine ⟨sI (sI (sI (sI rd 6 (nI s)) 5 (nI (kd B len s))) 7 (nI (s + 1))) 8 0, ?_, ⟨rfl, rfl, rfl, ?_⟩, fr _ _⟩
      · have e5 : (sI (sI (sI rd 6 (nI s)) 5 (nI (kd B len s))) 7 (nI (s + 1))).1 5 = nI (kd B len s) := rfl
        have n4 : ¬ nI (kd B len s) = (4 : Int32) := fun z => k45 (Or.inl (nI_inj (b := 4) (by omega) (by decide) z))
        have n5 : ¬ nI (kd B len s) = (5 : Int32) := fun z => k45 (Or.inr (nI_inj (b := 5) (by omega) (by decide) z))
        unfold j_X4_advance_79 j_X4_advance_139
        rw [eLet, e5, if_neg n4, if_neg n5, if_neg n4, eLet]
      · rw [if_neg (fun z => k45 (Or.inl z))]
        rfl
/-! the model -/
theorem m_skip : ∀ (d i N : Nat) (M : OS), Tx B len inp M → i + d = len → d < N → M.1 25 = nI i → l_X9_next_0 n N M = j_X9_next_39 n (sI M 25 (nI (skp B len d i)))
  | 0, i, N, M, hT, hi, hN, h6 => by
    obtain ⟨N', rfl⟩ : ∃ N', N = N' + 1 := ⟨N - 1, by omega⟩
    have h600 := hT.1
    show s_X9_next_0 n _ M = j_X9_next_39 n (sI M 25 (nI i))
    unfold s_X9_next_0
    rw [h6, m_here hT (by omega), if_neg (show ¬ i < len by omega), ebnd, if_neg (show ¬ (-1 : Int32) = 32 from by decide), ebnd, if_neg (show ¬ (-1 : Int32) = 10 from by decide), sI_same h6]
  | d + 1, i, N, M, hT, hi, hN, h6 => by
    obtain ⟨N', rfl⟩ : ∃ N', N = N' + 1 := ⟨N - 1, by omega⟩
    have h600 := hT.1
    have hil : i < len := by omega
    have hb := (hT.2.2.2 i hil).1
    have jb : j_X9_next_26 n (l_X9_next_0 n N') M = j_X9_next_39 n (sI M 25 (nI (skp B len d (i + 1)))) := by
      unfold j_X9_next_26
      rw [eLet, h6, nI_1, m_skip d (i + 1) N' (sI M 25 (nI (i + 1))) (hT.fr rfl rfl) (by omega) (by omega) sI_s, sI_sI]
    show s_X9_next_0 n (l_X9_next_0 n N') M = j_X9_next_39 n (sI M 25 (nI (if kd B len i = 1 then skp B len d (i + 1) else i)))
    unfold s_X9_next_0
    rw [h6, m_here hT (by omega), if_pos hil, ebnd, ebnd, jb]
    by_cases q : B i = 32
    · rw [if_pos (show nI (B i) = (32 : Int32) from by rw [q]; rfl), if_pos (show kd B len i = 1 from by unfold kd; rw [if_pos hil, if_pos q])]
    · rw [if_neg (show ¬ nI (B i) = (32 : Int32) from fun z => q (nI_inj (b := 32) (by omega) (by decide) z))]
      by_cases q2 : B i = 10
      · rw [if_pos (show nI (B i) = (10 : Int32) from by rw [q2]; rfl), if_pos (show kd B len i = 1 from by unfold kd; rw [if_pos hil, if_neg q, if_pos q2])]
      · have hk : kd B len i ≠ 1 := by
          unfold kd
          rw [if_pos hil, if_neg q, if_neg q2]
          repeat (first | split | omega)
        rw [if_neg (show ¬ nI (B i) = (10 : Int32) from fun z => q2 (nI_inj (b := 10) (by omega) (by decide) z)), if_neg hk, sI_same h6]
theorem kd5_rng {i : Nat} (h : kd B len i = 5) : i < len ∧ 48 ≤ B i ∧ B i ≤ 57 := by
  have hl := tkn_lt (B := B) (len := len) (s := i) (by omega)
  refine ⟨hl, ?_⟩
  unfold kd at h
  rw [if_pos hl] at h
  revert h
  repeat (first | split | (intro h; omega))
theorem kd4_rng {i : Nat} (h : kd B len i = 4) : i < len ∧ 97 ≤ B i ∧ B i ≤ 122 := by
  have hl := tkn_lt (B := B) (len := len) (s := i) (by omega)
  refine ⟨hl, ?_⟩
  unfold kd at h
  rw [if_pos hl] at h
  revert h
  repeat (first | split | (intro h; omega))
theorem vl_le {s : Nat} : ∀ {j : Nat}, (∀ i, i < j → B (s + i) ≤ 57) → vl B s j < 10 ^ j
  | 0, _ => by
    show 0 < 10 ^ 0
    decide
  | j + 1, h => by
    have h1 := vl_le (s := s) (j := j) fun i hi => h i (by omega)
    have h2 := h j (by omega)
    show 10 * vl B s j + (B (s + j) - 48) < 10 ^ (j + 1)
    rw [Nat.pow_succ]
    omega
/-- the digits of a number are gone through -/
theorem m_digits {s : Nat} : ∀ (d i N : Nat) (M : OS), Tx B len inp M → i + d = len → d < N → s ≤ i → M.1 25 = nI i → M.1 26 = nI s → (∀ j, s ≤ j → j < i → kd B len j = 5) → M.1 29 = nI (vl B s (min (i - s) 3)) → ∃ M', l_X9_next_184 n N M = some M' ∧ Fn M M' ∧ M'.2.2.2 = M.2.2.2 ∧ M'.1 26 = nI s ∧ M'.1 25 = nI (rne B len 5 d i) ∧ M'.1 27 = nI (if rne B len 5 d i - s ≤ 3 then 2 else 4) ∧ M'.1 29 = nI (vl B s (min (rne B len 5 d i - s) 3)) := by
  have fin : ∀ (i : Nat) (M : OS), s ≤ i → i ≤ 600 → M.1 25 = nI i → M.1 26 = nI s → M.1 29 = nI (vl B s (min (i - s) 3)) → ∃ M', j_X9_next_254 n M = some M' ∧ Fn M M' ∧ M'.2.2.2 = M.2.2.2 ∧ M'.1 26 = nI s ∧ M'.1 25 = nI i ∧ M'.1 27 = nI (if i - s ≤ 3 then 2 else 4) ∧ M'.1 29 = nI (vl B s (min (i - s) 3)) := fun i M h1 h2 h3 h4 h5 => by
    unfold j_X9_next_254
    rw [h3, h4, pk_sub h1]
    by_cases q : i - s ≤ 3
    · rw [if_pos (show nI (i - s) ≤ (3 : Int32) from nI_le (b := 3) q (by decide)), if_pos q, eLet]
      exact ⟨_, rfl, Fn.set M _ (by omega), rfl, by rw [sI_o (by decide), h4], by rw [sI_o (by decide), h3], sI_s, by rw [sI_o (by decide), h5]⟩
    · rw [if_neg (show ¬ nI (i - s) ≤ (3 : Int32) from nI_ge (a := 3) (b := i - s) (by omega) (by omega)), if_neg q, eLet]
      exact ⟨_, rfl, Fn.set M _ (by omega), rfl, by rw [sI_o (by decide), h4], by rw [sI_o (by decide), h3], sI_s, by rw [sI_o (by decide), h5]⟩
  intro d
  induction d with
  | zero =>
    intro i N M hT hi hN hs h25 h26 hall h29
    obtain ⟨N', rfl⟩ : ∃ N', N = N' + 1 := ⟨N - 1, by omega⟩
    have h600 := hT.1
    have hk : kd B len i = 0 := kd_0.mpr (by omega)
    have e : l_X9_next_184 n (N' + 1) M = j_X9_next_254 n M := by
      show s_X9_next_184 n _ M = _
      unfold s_X9_next_184
      rw [h25, m_here hT (by omega), ebnd, m_isDigit hT (by omega), ebnd, ifz, decide_eq_false (show ¬ kd B len i = 5 by omega), if_neg (by decide)]
    rw [e]
    exact fin i M hs (by omega) h25 h26 h29
  | succ d ih =>
    intro i N M hT hi hN hs h25 h26 hall h29
    obtain ⟨N', rfl⟩ : ∃ N', N = N' + 1 := ⟨N - 1, by omega⟩
    have h600 := hT.1
    have er : rne B len 5 (d + 1) i = if kd B len i = 5 then rne B len 5 d (i + 1) else i := rfl
    rw [er]
    by_cases hk : kd B len i = 5
    · obtain ⟨r1, r2, r3⟩ := kd5_rng hk
      rw [if_pos hk]
      have hall' : ∀ j, s ≤ j → j < i + 1 → kd B len j = 5 := fun j a1 a2 => by
        by_cases e : j = i
        · rw [e]
          exact hk
        · exact hall j a1 (by omega)
      by_cases q : 3 ≤ i - s
      · have e : l_X9_next_184 n (N' + 1) M = l_X9_next_184 n N' (sI M 25 (nI (i + 1))) := by
          show s_X9_next_184 n (l_X9_next_184 n N') M = _
          unfold s_X9_next_184 j_X9_next_241
          rw [h25, m_here hT (by omega), ebnd, m_isDigit hT (by omega), ebnd, ifz, decide_eq_true hk, if_pos rfl, h26, pk_sub hs, if_pos (show (3 : Int32) ≤ nI (i - s) from nI_le (a := 3) q (by omega)), nI_1, eLet]
        obtain ⟨M', m1, m2, m3, m4⟩ := ih (i + 1) N' (sI M 25 (nI (i + 1))) (hT.fr rfl rfl) (by omega) (by omega) (by omega) sI_s (by rw [sI_o (by decide), h26]) hall' (by rw [sI_o (by decide), h29, Nat.min_eq_right q, Nat.min_eq_right (by omega)])
        rw [e]
        exact ⟨M', m1, (Fn.set M _ (by omega)).tr m2, m3, m4⟩
      · have hv : (10 : Int32) * nI (vl B s (min (i - s) 3)) + nI (B i) - 48 = nI (vl B s (min (i + 1 - s) 3)) := by
          rw [Nat.min_eq_left (show i - s ≤ 3 by omega), Nat.min_eq_left (show i + 1 - s ≤ 3 by omega), show i + 1 - s = (i - s) + 1 by omega, show (10 : Int32) = nI 10 from rfl, pk_mul, nI_add, show (48 : Int32) = nI 48 from rfl, pk_sub (by omega)]
          congr 1
          show 10 * vl B s (i - s) + B i - 48 = 10 * vl B s (i - s) + (B (s + (i - s)) - 48)
          rw [show s + (i - s) = i by omega]
          omega
        have e : l_X9_next_184 n (N' + 1) M = l_X9_next_184 n N' (sI (sI M 29 (nI (vl B s (min (i + 1 - s) 3)))) 25 (nI (i + 1))) := by
          show s_X9_next_184 n (l_X9_next_184 n N') M = _
          unfold s_X9_next_184 j_X9_next_241
          rw [h25, m_here hT (by omega), ebnd, m_isDigit hT (by omega), ebnd, ifz, decide_eq_true hk, if_pos rfl, h26, pk_sub hs, if_neg (show ¬ (3 : Int32) ≤ nI (i - s) from nI_ge (a := i - s) (b := 3) (by omega) (by decide)), ebnd, if_pos r1, h29, hv, eLet, sI_o (show (25 : Nat) ≠ 29 by decide), h25, nI_1, eLet]
        obtain ⟨M', m1, m2, m3, m4⟩ := ih (i + 1) N' (sI (sI M 29 (nI (vl B s (min (i + 1 - s) 3)))) 25 (nI (i + 1))) (hT.fr rfl rfl) (by omega) (by omega) (by omega) sI_s (by rw [sI_o (by decide), sI_o (by decide), h26]) hall' (by rw [sI_o (by decide), sI_s])
        rw [e]
        exact ⟨M', m1, ((Fn.set M _ (by omega)).tr (Fn.set _ _ (by omega))).tr m2, m3, m4⟩
    · have e : l_X9_next_184 n (N' + 1) M = j_X9_next_254 n M := by
        show s_X9_next_184 n _ M = _
        unfold s_X9_next_184
        rw [h25, m_here hT (by omega), ebnd, m_isDigit hT (by omega), ebnd, ifz, decide_eq_false hk, if_neg (by decide)]
      rw [e, if_neg hk]
      exact fin i M hs (by omega) h25 h26 h29
/-- the letters of a word are gone through -/
theorem m_letters (hn : 100 < n) {s : Nat} : ∀ (d i N : Nat) (M : OS), Tx B len inp M → i + d = len → d < N → s < i ∨ (s = i ∧ kd B len s = 4) → M.1 25 = nI i → M.1 26 = nI s → (∀ j, s ≤ j → j < i → kd B len j = 4) → M.2.2.2 30 = lN (sp (fun k => B (s + k)) (min (i - s) 6)) → ∃ M', l_X9_next_85 n N M = some M' ∧ Fn M M' ∧ M'.1 26 = nI s ∧ M'.1 25 = nI (rne B len 4 d i) ∧ M'.1 27 = nI 1 ∧ M'.1 28 = nI (wdx B s (rne B len 4 d i)) - 1 ∧ M'.2.2.2 30 = lN (sp (fun k => B (s + k)) (min (rne B len 4 d i - s) 6)) := by
  have fin : ∀ (i : Nat) (M : OS), Tx B len inp M → s < i → i ≤ len → M.1 25 = nI i → M.1 26 = nI s → (∀ j, s ≤ j → j < i → kd B len j = 4) → M.2.2.2 30 = lN (sp (fun k => B (s + k)) (min (i - s) 6)) → ∃ M', j_X9_next_149 n M = some M' ∧ Fn M M' ∧ M'.1 26 = nI s ∧ M'.1 25 = nI i ∧ M'.1 27 = nI 1 ∧ M'.1 28 = nI (wdx B s i) - 1 ∧ M'.2.2.2 30 = lN (sp (fun k => B (s + k)) (min (i - s) 6)) := fun i M hT h1 h2 h3 h4 h5 h6 => by
    unfold j_X9_next_149
    rw [eLet, m_wordHere (M := sI M 27 1) (hT.fr rfl rfl) (by rw [sI_o (by decide), h4]) (by rw [sI_o (by decide), h3]) h1 h2 (fun j a1 a2 => (kd4_rng (h5 j a1 a2)).2) hn, ebnd, eLet]
    exact ⟨_, rfl, (Fn.set M _ (by omega)).tr (Fn.set _ _ (by omega)), by rw [sI_o (by decide), sI_o (by decide), h4], by rw [sI_o (by decide), sI_o (by decide), h3], rfl, sI_s, h6⟩
  intro d
  induction d with
  | zero =>
    intro i N M hT hi hN hs h25 h26 hall h30
    obtain ⟨N', rfl⟩ : ∃ N', N = N' + 1 := ⟨N - 1, by omega⟩
    have h600 := hT.1
    have hk : kd B len i = 0 := kd_0.mpr (by omega)
    have hs' : s < i := by
      rcases hs with z | ⟨z, z2⟩
      · exact z
      · rw [z] at z2
        omega
    have e : l_X9_next_85 n (N' + 1) M = j_X9_next_149 n M := by
      show s_X9_next_85 n _ M = _
      unfold s_X9_next_85
      rw [h25, m_isLetter hT (by omega), ebnd, ifz, decide_eq_false (show ¬ kd B len i = 4 by omega), if_neg (by decide)]
    rw [e]
    exact fin i M hT hs' (by omega) h25 h26 hall h30
  | succ d ih =>
    intro i N M hT hi hN hs h25 h26 hall h30
    obtain ⟨N', rfl⟩ : ∃ N', N = N' + 1 := ⟨N - 1, by omega⟩
    have h600 := hT.1
    have er : rne B len 4 (d + 1) i = if kd B len i = 4 then rne B len 4 d (i + 1) else i := rfl
    rw [er]
    by_cases hk : kd B len i = 4
    · obtain ⟨r1, r2, r3⟩ := kd4_rng hk
      have hse : s ≤ i := by omega
      rw [if_pos hk]
      have hall' : ∀ j, s ≤ j → j < i + 1 → kd B len j = 4 := fun j a1 a2 => by
        by_cases e : j = i
        · rw [e]
          exact hk
        · exact hall j a1 (by omega)
      by_cases q : 6 ≤ i - s
      · have e : l_X9_next_85 n (N' + 1) M = l_X9_next_85 n N' (sI M 25 (nI (i + 1))) := by
          show s_X9_next_85 n (l_X9_next_85 n N') M = _
          unfold s_X9_next_85 j_X9_next_136
          rw [h25, m_isLetter hT (by omega), ebnd, ifz, decide_eq_true hk, if_pos rfl, h26, pk_sub hse, if_pos (show (6 : Int32) ≤ nI (i - s) from nI_le (a := 6) q (by omega)), nI_1, eLet]
        obtain ⟨M', m1, m2, m4⟩ := ih (i + 1) N' (sI M 25 (nI (i + 1))) (hT.fr rfl rfl) (by omega) (by omega) (Or.inl (by omega)) sI_s (by rw [sI_o (by decide), h26]) hall' (by rw [Nat.min_eq_right (show 6 ≤ i + 1 - s by omega)]; rw [Nat.min_eq_right q] at h30; exact h30)
        rw [e]
        exact ⟨M', m1, (Fn.set M _ (by omega)).tr m2, m4⟩
      · have hv : (32 : Int64) * lN (sp (fun k => B (s + k)) (min (i - s) 6)) + (nI (B i)).toInt64 - (96 : Int64) = lN (sp (fun k => B (s + k)) (min (i + 1 - s) 6)) := by
          rw [Nat.min_eq_left (show i - s ≤ 6 by omega), Nat.min_eq_left (show i + 1 - s ≤ 6 by omega), show i + 1 - s = (i - s) + 1 by omega, nI_l (by omega), show (32 : Int64) = lN 32 from rfl, lN_mul, lN_add, show (96 : Int64) = lN 96 from rfl, lN_sub (by omega)]
          congr 1
          show 32 * sp (fun k => B (s + k)) (i - s) + B i - 96 = 32 * sp (fun k => B (s + k)) (i - s) + (B (s + (i - s)) - 96)
          rw [show s + (i - s) = i by omega]
          omega
        have e : l_X9_next_85 n (N' + 1) M = l_X9_next_85 n N' (sI (sl M 30 (lN (sp (fun k => B (s + k)) (min (i + 1 - s) 6)))) 25 (nI (i + 1))) := by
          show s_X9_next_85 n (l_X9_next_85 n N') M = _
          unfold s_X9_next_85 j_X9_next_136
          rw [h25, m_isLetter hT (by omega), ebnd, ifz, decide_eq_true hk, if_pos rfl, h26, pk_sub hse, if_neg (show ¬ (6 : Int32) ≤ nI (i - s) from nI_ge (a := i - s) (b := 6) (by omega) (by decide)), m_here hT (by omega), ebnd, if_pos r1, h30, hv, eLet, sl_1, h25, nI_1, eLet]
        obtain ⟨M', m1, m2, m4⟩ := ih (i + 1) N' (sI (sl M 30 (lN (sp (fun k => B (s + k)) (min (i + 1 - s) 6)))) 25 (nI (i + 1))) (hT.fr rfl rfl) (by omega) (by omega) (Or.inl (by omega)) sI_s (by rw [sI_o (by decide), sl_1, h26]) hall' rfl
        rw [e]
        refine ⟨M', m1, Fn.tr ?_ m2, m4⟩
        exact ⟨fun j hj => by rw [sI_o (by omega), sl_1], rfl, rfl⟩
    · have hs' : s < i := by
        rcases hs with z | ⟨z, z2⟩
        · exact z
        · rw [z] at z2
          exact absurd z2 hk
      have e : l_X9_next_85 n (N' + 1) M = j_X9_next_149 n M := by
        show s_X9_next_85 n _ M = _
        unfold s_X9_next_85
        rw [h25, m_isLetter hT (by omega), ebnd, ifz, decide_eq_false hk, if_neg (by decide)]
      rw [e, if_neg hk]
      exact fin i M hT hs' (by omega) h25 h26 hall h30
end ADV
