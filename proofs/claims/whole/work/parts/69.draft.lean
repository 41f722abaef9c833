/-! the drafts as they begin, and how the model takes its own -/
section BEG
variable {n P NP E Bs F Pt Ap : Nat} {c rr ru M : OS}
theorem sI_self0 (c : OS) (j : Nat) : sI c j (c.1 j) = c := sI_same rfl
theorem fillI {z : Nat} (hz : z < 2 ^ 31) (hn : z < n) (t : Nat → Int32) : ∃ y, f_J7_fill_53178 n z t 0 = some y ∧ ∀ k, k < z → y k = 0 := by
  have h := loop_inv (l := l_J7_fill_53178_5 n z 0 (nI z)) (fun i s => ∀ k, k < i → s k = (0 : Int32)) (Q := fun r => ∀ k, k < z → r k = 0) (K := z) (fun N s hs => ?_) (fun N s i hi hs => Or.inl ?_) 0 n t (by omega) (by omega) (fun k hk => absurd hk (by omega))
  · exact h
  · refine ⟨s, ?_, hs⟩
    show s_J7_fill_53178_5 n z 0 (nI z) _ s (nI z) = _
    unfold s_J7_fill_53178_5
    rw [if_pos (show nI z ≤ nI z from Int32.le_refl (nI z))]
  · refine ⟨upd s i 0, fun k hk => ?_, ?_⟩
    · by_cases e : k = i
      · subst e
        rw [upd_s]
      · rw [upd_n e]
        exact hs k (by omega)
    · show s_J7_fill_53178_5 n z 0 (nI z) _ s (nI i) = _
      unfold s_J7_fill_53178_5
      rw [if_neg (nI_ge hi hz), egN hi hz, eLet, eLet, nI_clamp (by omega), nI_1]
theorem fillL {z : Nat} (hz : z < 2 ^ 31) (hn : z < n) (t : Nat → Int64) : ∃ y, f_J7_fill_d0a16 n z t 0 = some y ∧ ∀ k, k < z → y k = 0 := by
  have h := loop_inv (l := l_J7_fill_d0a16_6 n z 0 (nI z)) (fun i s => ∀ k, k < i → s k = (0 : Int64)) (Q := fun r => ∀ k, k < z → r k = 0) (K := z) (fun N s hs => ?_) (fun N s i hi hs => Or.inl ?_) 0 n t (by omega) (by omega) (fun k hk => absurd hk (by omega))
  · exact h
  · refine ⟨s, ?_, hs⟩
    show s_J7_fill_d0a16_6 n z 0 (nI z) _ s (nI z) = _
    unfold s_J7_fill_d0a16_6
    rw [if_pos (show nI z ≤ nI z from Int32.le_refl (nI z))]
  · refine ⟨vp_updL s i 0, fun k hk => ?_, ?_⟩
    · by_cases e : k = i
      · subst e
        exact pk_uLs
      · have : vp_updL s i 0 k = s k := if_neg e
        rw [this]
        exact hs k (by omega)
    · show s_J7_fill_d0a16_6 n z 0 (nI z) _ s (nI i) = _
      unfold s_J7_fill_d0a16_6
      rw [if_neg (nI_ge hi hz), egN hi hz, eLet, eLet, nI_clamp (by omega), nI_1]
def own0 (P k : Nat) : Int32 := if k < P then -1 else -2
theorem beg_loop (hP : P ≤ 64) (hn : 700 < n) (c : OS) : ∃ y, l_X2_begin_62 n (nI P) n c 0 = some (sA c 10 y) ∧ ∀ k, k < 64 → y k = own0 P k := by
  have hh := loop_inv (l := fun N (s : Nat → Int32) i => l_X2_begin_62 n (nI P) N (sA c 10 s) i) (fun i s => ∀ k, k < i → s k = own0 P k) (Q := fun r => ∃ y, r = sA c 10 y ∧ ∀ k, k < 64 → y k = own0 P k) (K := 64) (fun N s hs => ?_) (fun N s i hi hs => Or.inl ?_) 0 n (c.2.1 10) (by omega) (by omega) (fun k hk => absurd hk (by omega))
  · obtain ⟨r, h1, y, h2, h3⟩ := hh
    refine ⟨y, ?_, h3⟩
    rw [← h2, ← h1, sA_self]
    rfl
  · refine ⟨_, ?_, s, rfl, hs⟩
    show s_X2_begin_62 n (nI P) _ (sA c 10 s) (nI 64) = _
    unfold s_X2_begin_62
    rw [if_pos (show (64 : Int32) ≤ nI 64 from Int32.le_refl (64 : Int32))]
  · refine ⟨upd s i (own0 P i), fun k hk => ?_, ?_⟩
    · by_cases e : k = i
      · rw [e, upd_s]
      · rw [upd_n e]
        exact hs k (by omega)
    · show s_X2_begin_62 n (nI P) (l_X2_begin_62 n (nI P) N) (sA c 10 s) (nI i) = _
      unfold s_X2_begin_62
      rw [if_neg (show ¬ (64 : Int32) ≤ nI i from nI_ge (a := i) (b := 64) hi (by decide))]
      by_cases q : i < P
      · rw [if_neg (nI_ge q (by omega)), egN hi (by decide), eLet, sA_get, sA_sA, nI_clamp (by omega), eLet, nI_1, show own0 P i = -1 from if_pos q]
      · rw [if_pos (nI_le (show P ≤ i by omega) (by omega)), egN hi (by decide), eLet, sA_get, sA_sA, nI_clamp (by omega), eLet, nI_1, show own0 P i = -2 from if_neg q]
/-- the class's court begins -/
theorem c_begin (hP : P ≤ 64) (hn : 700 < n) (c : OS) : ∃ c', f_X2_begin n c (nI P) = some c' ∧ c'.1 2 = nI P ∧ (∀ j, j < 9 → j ≠ 2 → c'.1 j = 0) ∧ (∀ k, k < 40 → c'.2.1 11 k = 0) ∧ (∀ k, k < 251 → c'.2.2.1 9 k = 0) ∧ (∀ k, k < 64 → c'.2.1 10 k = own0 P k) := by
  obtain ⟨c9, hc9⟩ : ∃ c9, c9 = sI (sI (sI (sI (sI (sI (sI (sI (sI c 0 0) 1 0) 2 (nI P)) 3 0) 4 0) 5 0) 6 0) 7 0) 8 0 := ⟨_, rfl⟩
  obtain ⟨y, y1, y2⟩ := fillI (n := n) (z := 40) (by decide) (by omega) (c9.2.1 11)
  obtain ⟨w, w1, w2⟩ := fillL (n := n) (z := 251) (by decide) (by omega) ((sA c9 11 y).2.2.1 9)
  obtain ⟨v, v1, v2⟩ := beg_loop hP hn (sL (sA c9 11 y) 9 w)
  refine ⟨sA (sL (sA c9 11 y) 9 w) 10 v, ?_, ?_, fun j hj hj2 => ?_, ?_, ?_, ?_⟩
  · unfold f_X2_begin
    rw [eLet, eLet, eLet, eLet, eLet, eLet, eLet, eLet, eLet, ← hc9]
    unfold f_X6_clear
    rw [y1, ebnd, eLet, ebnd, eLet, w1, ebnd, eLet, v1]
  · rw [sA_1, sL_1, sA_1, hc9]
    rfl
  · rw [sA_1, sL_1, sA_1, hc9]
    match j, hj, hj2 with
    | 0, _, _ => rfl
    | 1, _, _ => rfl
    | 2, _, h => exact absurd rfl h
    | 3, _, _ => rfl
    | 4, _, _ => rfl
    | 5, _, _ => rfl
    | 6, _, _ => rfl
    | 7, _, _ => rfl
    | 8, _, _ => rfl
  · intro k hk
    exact y2 k hk
  · intro k hk
    exact w2 k hk
  · intro k hk
    rw [sA_get]
    exact v2 k hk
/-- the class's rules begin -/
theorem c_rbegin (v : Int32) (r : OS) : ∃ r', f_X5_begin n r v = some r' ∧ r'.1 0 = v ∧ r'.1 1 = nI 0 ∧ r'.1 2 = nI 5 ∧ r'.1 3 = nI 10 ∧ r'.1 4 = nI 20 ∧ r'.1 5 = nI 3 ∧ r'.1 6 = nI 10 := by
  have k3 : wUsual 3 = nI 5 := by decide +kernel
  have k4 : wUsual 4 = nI 10 := by decide +kernel
  have k5 : wUsual 5 = nI 20 := by decide +kernel
  have k6 : wUsual 6 = nI 3 := by decide +kernel
  have k7 : wUsual 7 = nI 10 := by decide +kernel
  unfold f_X5_begin
  rw [eLet, eLet, show gI 14 (3 : Int32) _ = _ from egN (k := 3) (by decide) (by decide), eLet, show gI 14 (4 : Int32) _ = _ from egN (k := 4) (by decide) (by decide), eLet, show gI 14 (5 : Int32) _ = _ from egN (k := 5) (by decide) (by decide), eLet, show gI 14 (6 : Int32) _ = _ from egN (k := 6) (by decide) (by decide), eLet, show gI 14 (7 : Int32) _ = _ from egN (k := 7) (by decide) (by decide), eLet, k3, k4, k5, k6, k7]
  exact ⟨_, rfl, rfl, rfl, rfl, rfl, rfl, rfl, rfl⟩
def row0 (i : Nat) : Int32 := if 538 ≤ i ∧ i ≤ 601 then -1 else 0
theorem row0_z {i : Nat} (h : i < 538 ∨ 601 < i) : row0 i = 0 := if_neg (by omega)
theorem m_clears_loop (hn : 2000 < n) (M : OS) : ∃ y, l_X9_clears_60 n n M 0 = some (sA M 10 y) ∧ ∀ i, i < 1846 → y i = row0 i := by
  have hh := loop_inv (l := fun N (s : Nat → Int32) i => l_X9_clears_60 n N (sA M 10 s) i) (fun i s => ∀ j, j < i → s j = row0 j) (Q := fun r => ∃ y, r = sA M 10 y ∧ ∀ i, i < 1846 → y i = row0 i) (K := 1846) (fun N s hs => ?_) (fun N s i hi hs => Or.inl ?_) 0 n (M.2.1 10) (by omega) (by omega) (fun j hj => absurd hj (by omega))
  · obtain ⟨r, h1, y, h2, h3⟩ := hh
    refine ⟨y, ?_, h3⟩
    rw [← h2, ← h1, sA_self]
    rfl
  · refine ⟨_, ?_, s, rfl, hs⟩
    show s_X9_clears_60 n _ (sA M 10 s) (nI 1846) = _
    unfold s_X9_clears_60
    rw [if_pos (show (1846 : Int32) ≤ nI 1846 from Int32.le_refl (1846 : Int32))]
  · refine ⟨upd s i (row0 i), fun j hj => ?_, ?_⟩
    · by_cases e : j = i
      · rw [e, upd_s]
      · rw [upd_n e]
        exact hs j (by omega)
    · show s_X9_clears_60 n (l_X9_clears_60 n N) (sA M 10 s) (nI i) = _
      unfold s_X9_clears_60
      rw [if_neg (show ¬ (1846 : Int32) ≤ nI i from nI_ge (a := i) (b := 1846) hi (by decide)), show (538 : Int64) = (nI 538).toInt64 from by decide, show (601 : Int64) = (nI 601).toInt64 from by decide, in32, ebnd]
      by_cases q : 538 ≤ i ∧ i ≤ 601
      · rw [decide_eq_true (nI_le (a := 538) (b := i) q.1 (by omega)), decide_eq_true (nI_le (a := i) (b := 601) q.2 (by decide)), if_neg (show ¬ bI (true && true) = 0 from by decide), egN hi (by decide), eLet, sA_get, sA_sA, nI_clamp (by omega), eLet, nI_1, show row0 i = -1 from if_pos q]
      · have : (decide (nI 538 ≤ nI i) && decide (nI i ≤ nI 601)) = false := by
          rw [← Bool.not_eq_true, Bool.and_eq_true, decide_eq_true_eq, decide_eq_true_eq, nI_leI (by omega) (by omega), nI_leI (by omega) (by omega)]
          exact q
        rw [this, if_pos (show bI false = 0 from rfl), egN hi (by decide), eLet, sA_get, sA_sA, nI_clamp (by omega), eLet, nI_1, show row0 i = 0 from if_neg q]
theorem g5 {β : Type} {k : Nat} {v : Int32} {o : Option β} (hv : v = nI k) (h : k < 5) : gI 5 v o = o := by
  rw [hv]
  exact egN h (by decide)
/-- the model's draft begins -/
theorem m_clears (hn : 2000 < n) (M : OS) : ∃ M', f_X9_clears n M = some M' ∧ M'.1 33 = nI 0 ∧ M'.1 34 = nI 0 ∧ M'.1 35 = nI 0 ∧ M'.1 36 = nI 0 ∧ M'.2.1 37 0 = nI 5 ∧ M'.2.1 37 1 = nI 10 ∧ M'.2.1 37 2 = nI 20 ∧ M'.2.1 37 3 = nI 3 ∧ M'.2.1 37 4 = nI 10 ∧ (∀ i, i < 1846 → M'.2.1 10 i = row0 i) ∧ FP M M' ∧ M'.1 31 = M.1 31 ∧ M'.1 32 = M.1 32 := by
  obtain ⟨M9, hM9⟩ : ∃ M9, M9 = sA (sA (sA (sA (sA (sI (sI (sI (sI M 33 0) 34 0) 35 0) 36 0) 37 (upd (M.2.1 37) 0 5)) 37 (upd (upd (M.2.1 37) 0 5) 1 10)) 37 (upd (upd (upd (M.2.1 37) 0 5) 1 10) 2 20)) 37 (upd (upd (upd (upd (M.2.1 37) 0 5) 1 10) 2 20) 3 3)) 37 (upd (upd (upd (upd (upd (M.2.1 37) 0 5) 1 10) 2 20) 3 3) 4 10) := ⟨_, rfl⟩
  obtain ⟨y, y1, y2⟩ := m_clears_loop hn M9
  refine ⟨sA M9 10 y, ?_, ?_, ?_, ?_, ?_, ?_, ?_, ?_, ?_, ?_, fun i hi => ?_, ⟨fun j hj => ?_, fun j h1 h2 => ?_, fun j hj => ?_⟩, ?_, ?_⟩
  · unfold f_X9_clears
    rw [eLet, eLet, eLet, eLet, g5 (k := 0) (v := 0) rfl (by decide), eLet, g5 (k := 1) (v := 1) rfl (by decide), eLet, g5 (k := 2) (v := 2) rfl (by decide), eLet, g5 (k := 3) (v := 3) rfl (by decide), eLet, g5 (k := 4) (v := 4) rfl (by decide), eLet]
    have e : sA (sA (sA (sA (sA (sI (sI (sI (sI M 33 0) 34 0) 35 0) 36 0) 37 (upd (M.2.1 37) 0 5)) 37 (upd (upd (M.2.1 37) 0 5) 1 10)) 37 (upd (upd (upd (M.2.1 37) 0 5) 1 10) 2 20)) 37 (upd (upd (upd (upd (M.2.1 37) 0 5) 1 10) 2 20) 3 3)) 37 (upd (upd (upd (upd (upd (M.2.1 37) 0 5) 1 10) 2 20) 3 3) 4 10) = M9 := hM9.symm
    exact (congrArg (fun z => l_X9_clears_60 n n z 0) e).trans y1
  · rw [sA_1, hM9]; rfl
  · rw [sA_1, hM9]; rfl
  · rw [sA_1, hM9]; rfl
  · rw [sA_1, hM9]; rfl
  · rw [hM9]; rfl
  · rw [hM9]; rfl
  · rw [hM9]; rfl
  · rw [hM9]; rfl
  · rw [hM9]; rfl
  · rw [sA_get]
    exact y2 i hi
  · rw [sA_1, hM9, sA_1, sA_1, sA_1, sA_1, sA_1, sI_o (by omega), sI_o (by omega), sI_o (by omega), sI_o (by omega)]
  · rw [sA_o h1, hM9, sA_o h2, sA_o h2, sA_o h2, sA_o h2, sA_o h2, sI_2, sI_2, sI_2, sI_2]
  · rw [hM9]
    rfl
  · rw [sA_1, hM9, sA_1, sA_1, sA_1, sA_1, sA_1, sI_o (by omega), sI_o (by omega), sI_o (by omega), sI_o (by omega)]
  · rw [sA_1, hM9, sA_1, sA_1, sA_1, sA_1, sA_1, sI_o (by omega), sI_o (by omega), sI_o (by omega), sI_o (by omega)]
/-- a court that begins, beside a row that begins -/
theorem RR_new {D : Nat} {m : Nat → Int32} (hP : P ≤ 64) (h2 : c.1 2 = nI P) (h0 : ∀ j, j < 9 → j ≠ 2 → c.1 j = 0) (h11 : ∀ k, k < 40 → c.2.1 11 k = 0) (h9 : ∀ k, k < 251 → c.2.2.1 9 k = 0) (h10 : ∀ k, k < 64 → c.2.1 10 k = own0 P k) (hm : ∀ i, i < 1846 → m i = row0 i) : RR P 0 D 0 0 0 0 c m := by
  have mz : ∀ i, i < 538 → m i = 0 := fun i hi => (hm i (by omega)).trans (row0_z (by omega))
  have mo : ∀ k, k < P → m (538 + k) = -1 := fun k hk => (hm _ (by omega)).trans (if_pos (by omega))
  have hpc : pc m P (-1) = P := fb_ct_all.mpr fun k hk => decide_eq_true (mo k hk)
  have zc : ∀ i, (0 : Int64).toBitVec.getLsbD i = false := fun i => BitVec.getLsbD_zero
  have zm : ∀ i, (0 : Int32).toBitVec.getLsbD i = false := fun i => BitVec.getLsbD_zero
  refine ⟨⟨⟨⟨?_, ?_, ?_, ?_, ?_, ?_⟩, ⟨fun k hk => ?_, fun k h1 h3 => ?_⟩, ?_, fun p hp => ⟨?_, ?_, ?_, ?_, ?_⟩, fun l hl => absurd hl (by omega), fun q hq => absurd hq (by omega), fun r _ hr => absurd hr (by omega), fun p hp => ⟨fun t ht => ?_, fun t ht _ => ?_⟩⟩, ⟨⟨mz 0 (by omega), by omega, ⟨0, by omega, mz 1 (by omega)⟩, mz 6 (by omega), by omega, mz 7 (by omega), by omega, mz 4 (by omega), by omega⟩, ⟨hP, fun k hk => Or.inl (mo k hk)⟩, fun p hp => ⟨⟨0, by omega, mz _ (by omega)⟩, ⟨0, by omega, mz _ (by omega)⟩⟩, fun p hp => mz _ (by omega), fun l hl => absurd hl (by omega), fun q hq => absurd hq (by omega), ⟨mz 8 (by omega), mz 9 (by omega), by omega⟩, fun r _ hr => absurd hr (by omega)⟩⟩, ⟨?_, ?_⟩, ⟨0, by omega, mz 3 (by omega)⟩, by omega⟩
  · rw [h0 0 (by omega) (by omega), mz 0 (by omega)]
  · rw [h0 1 (by omega) (by omega), mz 1 (by omega)]
  · rw [h0 3 (by omega) (by omega), mz 6 (by omega)]
  · rw [h0 4 (by omega) (by omega), mz 7 (by omega)]
  · rw [h0 5 (by omega) (by omega), mz 4 (by omega)]
  · rw [h0 8 (by omega) (by omega), mz 5 (by omega)]
  · rw [h10 k (by omega), mo k hk]
    exact if_pos hk
  · rw [h10 k h3]
    exact if_neg (by omega)
  · show c.1 2 = nI (pc m P (-1))
    rw [h2, hpc]
  · rw [h11 _ (by omega), mz _ (by omega)]
  · rw [h11 _ (by omega), mz _ (by omega)]
  · rw [h11 _ (by omega), mz _ (by omega)]
  · rw [h11 _ (by omega), mz _ (by omega)]
  · rw [h11 _ (by omega), mz _ (by omega)]
  · unfold cb mb
    rw [h9 _ (by omega), hm _ (by omega), row0_z (by omega), zc, zm]
  · unfold cb
    rw [h9 _ (by omega), zc]
  · rw [h0 6 (by omega) (by omega), mz 2 (by omega)]
  · rw [h0 7 (by omega) (by omega), mz 3 (by omega)]
/-- the names are taken over -/
theorem takes_loop (hNP : NP ≤ 8) : ∀ (d i N : Nat) (th : OS), i + d = NP → d < N → th.1 2 = nI NP → (∀ p, p < i → th.2.2.1 8 p = th.2.2.1 38 p) → ∃ th', l_X9_takesDraft_68 n N th (nI i) = j_X9_takesDraft_94 n th' ∧ th'.1 = th.1 ∧ th'.2.1 = th.2.1 ∧ ∀ p, p < NP → th'.2.2.1 8 p = th.2.2.1 38 p
  | 0, i, N, th, hi, hN, h2, hk => by
    obtain ⟨N', rfl⟩ : ∃ N', N = N' + 1 := ⟨N - 1, by omega⟩
    refine ⟨th, ?_, rfl, rfl, fun p hp => hk p (by omega)⟩
    show s_X9_takesDraft_68 n _ th (nI i) = _
    unfold s_X9_takesDraft_68
    rw [h2, if_pos (nI_le (show NP ≤ i by omega) (by omega))]
  | d + 1, i, N, th, hi, hN, h2, hk => by
    obtain ⟨N', rfl⟩ : ∃ N', N = N' + 1 := ⟨N - 1, by omega⟩
    obtain ⟨th', q1, q2, q3, q4⟩ := takes_loop hNP d (i + 1) N' (sL th 8 (vp_updL (th.2.2.1 8) i (th.2.2.1 38 i))) (by omega) (by omega) h2 (fun p hp => by
      show vp_updL (th.2.2.1 8) i (th.2.2.1 38 i) p = th.2.2.1 38 p
      by_cases e : p = i
      · rw [e, pk_uLs]
      · have : vp_updL (th.2.2.1 8) i (th.2.2.1 38 i) p = th.2.2.1 8 p := if_neg e
        rw [this]
        exact hk p (by omega))
    refine ⟨th', ?_, q2, q3, q4⟩
    show s_X9_takesDraft_68 n (l_X9_takesDraft_68 n N') th (nI i) = _
    unfold s_X9_takesDraft_68
    rw [h2, if_neg (nI_ge (show i < NP by omega) (by omega)), egN (show i < 8 by omega) (by decide), eLet, egN (show i < 8 by omega) (by decide), eLet, nI_clamp (by omega), nI_1, eLet]
    exact q1
theorem m_takes (h33 : M.1 33 = nI P) (h34 : M.1 34 = nI NP) (hNP : NP ≤ 8) (hn : 2000 < n) : ∃ M', f_X9_takesDraft n M = some M' ∧ M'.1 1 = nI P ∧ M'.1 2 = nI NP ∧ M'.1 3 = M.2.1 37 0 ∧ M'.1 4 = M.2.1 37 1 ∧ M'.1 5 = M.2.1 37 2 ∧ M'.1 6 = M.2.1 37 3 ∧ M'.1 7 = M.2.1 37 4 ∧ (∀ j, 8 ≤ j → j ≠ 15 → j ≠ 16 → M'.1 j = M.1 j) ∧ M'.1 15 = 0 ∧ M'.1 16 = 0 ∧ (∀ j, j ≠ 9 → M'.2.1 j = M.2.1 j) ∧ (∀ i, i < 1846 → M'.2.1 9 i = M.2.1 10 i) ∧ (∀ p, p < NP → M'.2.2.1 8 p = M.2.2.1 38 p) := by
  obtain ⟨M7, hM7⟩ : ∃ M7, M7 = sI (sI (sI (sI (sI (sI (sI M 1 (nI P)) 2 (nI NP)) 3 (M.2.1 37 0)) 4 (M.2.1 37 1)) 5 (M.2.1 37 2)) 6 (M.2.1 37 3)) 7 (M.2.1 37 4) := ⟨_, rfl⟩
  obtain ⟨th', q1, q2, q3, q4⟩ := takes_loop (n := n) hNP NP 0 n M7 (by omega) (by omega) (by rw [hM7]; rfl) (fun p hp => absurd hp (by omega))
  obtain ⟨y, y1, y2⟩ := m_copies (n := n) hn (th'.2.1 10) (th'.2.1 9)
  refine ⟨sI (sI (sA th' 9 y) 15 0) 16 0, ?_, ?_, ?_, ?_, ?_, ?_, ?_, ?_, fun j h1 h2 h3 => ?_, rfl, rfl, fun j h1 => ?_, fun i hi => ?_, fun p hp => ?_⟩
  · have e : f_X9_takesDraft n M = l_X9_takesDraft_68 n n M7 0 := by
      unfold f_X9_takesDraft
      rw [h33, eLet, sI_o (show (34 : Nat) ≠ 1 by decide), h34, eLet, g5 (k := 0) (v := 0) rfl (by decide), eLet, eLet, g5 (k := 1) (v := 1) rfl (by decide), eLet, eLet, g5 (k := 2) (v := 2) rfl (by decide), eLet, eLet, g5 (k := 3) (v := 3) rfl (by decide), eLet, eLet, g5 (k := 4) (v := 4) rfl (by decide), eLet, eLet, hM7]
      rfl
    have q1 : l_X9_takesDraft_68 n n M7 0 = j_X9_takesDraft_94 n th' := q1
    rw [e, q1]
    unfold j_X9_takesDraft_94
    rw [y1, ebnd, eLet, eLet, eLet]
  · rw [sI_o (by decide), sI_o (by decide), sA_1, q2, hM7]; rfl
  · rw [sI_o (by decide), sI_o (by decide), sA_1, q2, hM7]; rfl
  · rw [sI_o (by decide), sI_o (by decide), sA_1, q2, hM7]; rfl
  · rw [sI_o (by decide), sI_o (by decide), sA_1, q2, hM7]; rfl
  · rw [sI_o (by decide), sI_o (by decide), sA_1, q2, hM7]; rfl
  · rw [sI_o (by decide), sI_o (by decide), sA_1, q2, hM7]; rfl
  · rw [sI_o (by decide), sI_o (by decide), sA_1, q2, hM7]; rfl
  · rw [sI_o h3, sI_o h2, sA_1, q2, hM7, sI_o (by omega), sI_o (by omega), sI_o (by omega), sI_o (by omega), sI_o (by omega), sI_o (by omega), sI_o (by omega)]
  · rw [sI_2, sI_2, sA_o h1, q3, hM7]; rfl
  · rw [sI_2, sI_2, sA_get, y2 i hi, q3, hM7]; rfl
  · show th'.2.2.1 8 p = _
    rw [q4 p hp, hM7]; rfl
/-- the class takes its rules over -/
theorem c_rcopy (th p : OS) : ∃ c', f_X5_copyFrom n th p = some c' ∧ (∀ j, j < 7 → c'.1 j = p.1 j) ∧ (∀ k, k < 56 → c'.2.1 7 k = p.2.1 7 k) := by
  unfold f_X5_copyFrom
  simp only [eLet]
  rw [tcpy (by decide), ebnd]
  refine ⟨_, rfl, ?_, ?_⟩
  · intro j hj
    match j, hj with
    | 0, _ => rfl
    | 1, _ => rfl
    | 2, _ => rfl
    | 3, _ => rfl
    | 4, _ => rfl
    | 5, _ => rfl
    | 6, _ => rfl
  · intro k hk
    exact sb_cpy0 (n := 56) hk
end BEG
