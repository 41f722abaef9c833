/-! parse -/
section PARSE
variable {n len P NP E Bs F Pt Ap T LC CC FC D : Nat} {inp rd rr fo M x ou ru no : OS} {B : Nat → Nat} {pa : PS} {so : Option OS} {sv : Value}
theorem parse_dead (h : M.1 31 ≠ 0) (N : Nat) : l_X9_parse_96 n (N + 1) M = some (M, -1) := by
  show s_X9_parse_96 n _ M = _
  unfold s_X9_parse_96 j_X9_parse_117
  rw [m_fineD h, ebnd, if_pos rfl, ebnd, if_pos rfl]
/-- the statements, one after another -/
theorem textLoop (hn : 700 < n) : ∀ (d s e left N N2 : Nat) (rd rr fo M : OS), len - s ≤ d → len ≤ s + left → left ≤ 600 → left < N → d < N2 → AL B len inp s e rd M → DR rd rr fo M → (∃ rd' rr' fo' M' s' e', l_X4_readText_41 n 600 inp N rd rr fo (nI left) = some (rd', rr', fo', 1) ∧ l_X9_parse_96 n N2 M = j_X9_parse_117 n M' ∧ AL B len inp s' e' rd' M' ∧ DR rd' rr' fo' M' ∧ FP M M') ∨ (∃ rd' rr' fo' M', l_X4_readText_41 n 600 inp N rd rr fo (nI left) = some (rd', rr', fo', 0) ∧ l_X9_parse_96 n N2 M = some (M', -1) ∧ DD rd' M' ∧ FP M M') := by
  intro d
  induction d using Nat.strongRecOn with
  | ind d ih =>
    intro s e left N N2 rd rr fo M h1 h2 h600 h3 h4 hA hD
    obtain ⟨N', rfl⟩ : ∃ N', N = N' + 1 := ⟨N - 1, by omega⟩
    obtain ⟨N2', rfl⟩ : ∃ N', N2 = N' + 1 := ⟨N2 - 1, by omega⟩
    have k5 := kd_le B len s
    have m4 := mk_le (B := B) (len := len) s e
    have hc : l_X4_readText_41 n 600 inp (N' + 1) rd rr fo (nI left) = s_X4_readText_41 n 600 inp (l_X4_readText_41 n 600 inp N') rd rr fo (nI left) := rfl
    have hm : l_X9_parse_96 n (N2' + 1) M = s_X9_parse_96 n (l_X9_parse_96 n N2') M := rfl
    rw [hc, hm]
    unfold s_X4_readText_41 s_X9_parse_96
    rw [m_fineA hA.a, ebnd, if_neg (show ¬ (1 : Int32) = 0 from by decide), hA.2.2.2.2.2.1.2.2.1, hA.2.2.2.2.1.2.2.1]
    by_cases k0 : kd B len s = 0
    · refine Or.inl ⟨rd, rr, fo, M, s, e, ?_, ?_, hA, hD, FP.rf M⟩
      · rw [k0, if_pos (show nI 0 = (0 : Int32) from rfl), ite_self]
      · rw [show mk B len s e = 0 from if_pos k0, if_pos (show nI 0 = (0 : Int32) from rfl)]
    · have hsl := tkn_lt k0
      obtain ⟨l1, rfl⟩ : ∃ l1, left = l1 + 1 := ⟨left - 1, by omega⟩
      obtain ⟨d1, rfl⟩ : ∃ d1, d = d1 + 1 := ⟨d - 1, by omega⟩
      obtain ⟨N3, rfl⟩ : ∃ N3, N2' = N3 + 1 := ⟨N2' - 1, by omega⟩
      have mk0 : 0 < mk B len s e := by
        unfold mk
        rw [if_neg k0]
        repeat (first | split | omega)
      have hl : nI (l1 + 1) + (-1 : Int32) = nI l1 := nI_negadd (a := l1 + 1) (b := 1) (by omega)
      rw [if_neg (show ¬ nI (l1 + 1) ≤ 0 from fun z => by have := (nI_le0 (k := l1 + 1) (by omega)).mp z; omega), if_neg (nI_ne0 (show 0 < kd B len s by omega) (by omega)), if_neg (nI_ne0 mk0 (by omega))]
      obtain ⟨P, NP, E, Bs, F, Pt, Ap, LC, CC, w, hd⟩ := hD
      rcases stmt hA hd k0 hn with ⟨rd1, rr1, fo1, rd2, M2, s2, e2, q1, q2, q3, q4, q5, q6, q7⟩ | ⟨rd1, rr1, fo1, rd2, M2, q1, q2, q3, q4⟩
      · rw [q1, ebnd4, if_neg (show ¬ (1 : Int32) = 0 from by decide), q2, ebnd2, if_neg (show ¬ (1 : Int32) = 0 from by decide), hl, eLet, q3, ebnd]
        rcases ih d1 (by omega) s2 e2 l1 N' (N3 + 1) rd2 rr1 fo1 M2 (by omega) (by omega) (by omega) (by omega) (by omega) q4 q5 with ⟨rd', rr', fo', M', s', e', z1, z2, z3, z4, z5⟩ | ⟨rd', rr', fo', M', z1, z2, z3, z4⟩
        · exact Or.inl ⟨rd', rr', fo', M', s', e', z1, z2, z3, z4, q7.tr z5⟩
        · exact Or.inr ⟨rd', rr', fo', M', z1, z2, z3, q7.tr z4⟩
      · refine Or.inr ⟨rd2, rr1, fo1, M2, ?_, ?_, q3, q4⟩
        · rcases q1 with ⟨g1, rfl⟩ | ⟨g1, g2⟩
          · rw [g1, ebnd4, if_pos rfl]
          · rw [g1, ebnd4, if_neg (show ¬ (1 : Int32) = 0 from by decide), g2, ebnd2, if_pos rfl]
        · rw [q2, ebnd, parse_dead q3.2.2]
theorem m_88 (M : OS) : (if M.1 27 = (3 : Int32) then j_X9_parse_88 n M (1 : Int32) else j_X9_parse_88 n M (0 : Int32)) = bnd (j_X9_statement_91 n M) (fun (th_17 : OS) => l_X9_parse_96 n n th_17) := by
  have e : ∀ v : Int32, j_X9_parse_88 n M v = bnd (j_X9_statement_105 n M v) (fun (th_17 : OS) => l_X9_parse_96 n n th_17) := fun v => by
    unfold j_X9_parse_88 j_X9_statement_105
    cases f_X9_needs n M v 1 with
    | none => rfl
    | some y =>
      show bnd (f_X9_goOn n y) _ = bnd (bnd (f_X9_goOn n y) _) _
      cases f_X9_goOn n y <;> rfl
  unfold j_X9_statement_91
  by_cases q : M.1 27 = (3 : Int32)
  · rw [if_pos q, if_pos q, e]
  · rw [if_neg q, if_neg q, e]
/-- the whole text, from its first token on -/
theorem textAll {s e : Nat} (h : AL B len inp s e rd M) (h11 : rd.1 11 = nI 0) (h34 : M.1 34 = nI 0) (h35 : M.1 35 = nI 0) (h370 : M.2.1 37 0 = nI 5) (h371 : M.2.1 37 1 = nI 10) (h372 : M.2.1 37 2 = nI 20) (h373 : M.2.1 37 3 = nI 3) (h374 : M.2.1 37 4 = nI 10) (h10 : ∀ i, i < 1846 → M.2.1 10 i = row0 i) (hn : 2000 < n) (rr fo : OS) : ∃ rd' rr' fo' M', FP M M' ∧ ((∃ s' e', bnd4 (f_X4_readPages n rd 600 inp rr fo) (fun (th_6 : OS) (ru_7 : OS) (co_8 : OS) (r_9 : Int32) => if r_9 = 0 then (some (th_6, ru_7, co_8, (0 : Int32))) else (Let (inp.1 1) (fun v1_10 : Int32 => l_X4_readText_41 n 600 inp n th_6 ru_7 co_8 v1_10))) = some (rd', rr', fo', 1) ∧ bnd (f_X9_isWord n M (0 : Int32)) (fun (r_9 : Int32) => bnd (f_X9_needs n M r_9 (1 : Int32)) (fun (th_10 : OS) => bnd (f_X9_goOn n th_10) (fun (th_11 : OS) => bnd2 (f_X9_number n th_11 (4 : Int32) (64 : Int32)) (fun (th_12 : OS) (r_13 : Int32) => Let (sI th_12 33 r_13) (fun th_14 : OS => Let (sI th_14 36 (th_14.1 33)) (fun th_15 : OS => if (th_15.1 27) = (3 : Int32) then (j_X9_parse_88 n th_15 (1 : Int32)) else (j_X9_parse_88 n th_15 (0 : Int32)))))))) = j_X9_parse_117 n M' ∧ AL B len inp s' e' rd' M' ∧ DR rd' rr' fo' M') ∨ (bnd4 (f_X4_readPages n rd 600 inp rr fo) (fun (th_6 : OS) (ru_7 : OS) (co_8 : OS) (r_9 : Int32) => if r_9 = 0 then (some (th_6, ru_7, co_8, (0 : Int32))) else (Let (inp.1 1) (fun v1_10 : Int32 => l_X4_readText_41 n 600 inp n th_6 ru_7 co_8 v1_10))) = some (rd', rr', fo', 0) ∧ bnd (f_X9_isWord n M (0 : Int32)) (fun (r_9 : Int32) => bnd (f_X9_needs n M r_9 (1 : Int32)) (fun (th_10 : OS) => bnd (f_X9_goOn n th_10) (fun (th_11 : OS) => bnd2 (f_X9_number n th_11 (4 : Int32) (64 : Int32)) (fun (th_12 : OS) (r_13 : Int32) => Let (sI th_12 33 r_13) (fun th_14 : OS => Let (sI th_14 36 (th_14.1 33)) (fun th_15 : OS => if (th_15.1 27) = (3 : Int32) then (j_X9_parse_88 n th_15 (1 : Int32)) else (j_X9_parse_88 n th_15 (0 : Int32)))))))) = some (M', -1) ∧ DD rd' M')) := by
  have w14 := wd_lt B len s e
  have h600 := h.1.1
  obtain ⟨n1, hn1⟩ : ∃ n1, n = n1 + 1 := ⟨n - 1, by omega⟩
  unfold f_X4_readPages
  rw [m_isWord h (v := 0) (k := 0) rfl (by decide), ebnd, h.word, egN w14 (by decide), show gI 14 (1 : Int32) _ = _ from egN (k := 1) (by decide) (by decide)]
  -- the model's way once it is dead
  have dead : ∀ {M1 : OS} (r : Int32), M1.1 31 ≠ 0 → (if (sI (sI M1 33 r) 36 ((sI M1 33 r).1 33)).1 27 = (3 : Int32) then (j_X9_parse_88 n (sI (sI M1 33 r) 36 ((sI M1 33 r).1 33)) (1 : Int32)) else (j_X9_parse_88 n (sI (sI M1 33 r) 36 ((sI M1 33 r).1 33)) (0 : Int32))) = some (sI (sI M1 33 r) 36 ((sI M1 33 r).1 33), -1) := fun {M1} r hM1 => by
    have hM2 : (sI (sI M1 33 r) 36 ((sI M1 33 r).1 33)).1 31 ≠ 0 := hM1
    rw [m_88, semiD hM2, ebnd, hn1, parse_dead hM2]
  have fp2 : ∀ (M1 : OS) (r r2 : Int32), FP M1 (sI (sI M1 33 r) 36 r2) := fun M1 r r2 => (FP.set M1 r (by omega)).tr (FP.set _ r2 (by omega))
  by_cases q1 : wd B len s e = 1
  · have k0 : kd B len s ≠ 0 := by
      have := wd_kd (B := B) (len := len) (s := s) (e := e) (by omega)
      omega
    obtain ⟨rd1, M1, s1, e1, a1, a2, a3, a4, a5, a6, a7⟩ := stepBoth (n := n) h (by omega)
    rw [q1, if_pos (show nI 1 = (1 : Int32) from rfl), a1, ebnd, show gI 14 (1 : Int32) _ = _ from egN (k := 1) (by decide) (by decide), show gI 14 (1 : Int32) _ = _ from egN (k := 1) (by decide) (by decide), show wLow (1 : Int32) = nI 4 from by decide +kernel, show wHigh (1 : Int32) = nI 64 from by decide +kernel, decide_eq_true (show (1 : Nat) = 0 + 1 from rfl), show bI true = 1 from rfl, m_needs1, ebnd, m_goOnA h.a, a2, ebnd]
    rcases rdNum (n := n) (a := 4) (b := 64) a3 (by decide) (by decide) (by omega) with ⟨rd2, M2, s2, e2, v, b1, b2, b3, b4, b5, b6, b7, b8, b9, b10⟩ | ⟨rd2, M2, r, b1, b2, b3, b4, b5⟩
    · have b5 : f_X9_number n M1 (4 : Int32) (64 : Int32) = some (M2, nI v) := b5
      obtain ⟨r1, c1, c2, c3, c4, c5, c6, c7, c8⟩ := c_rbegin (n := n) (nI v) rr
      obtain ⟨co, d1, d2, d3, d4, d5, d6⟩ := c_begin (n := n) (P := v) b2 (by omega) fo
      obtain ⟨Mb, hMb⟩ : ∃ Mb, Mb = sI (sI M2 33 (nI v)) 36 (nI v) := ⟨_, rfl⟩
      have hal : AL B len inp s2 e2 rd2 Mb := by
        subst hMb
        obtain ⟨t1, t2, t3, t4, t5, t6, t7, t8, t9⟩ := b6
        exact ⟨t1, t2, t3, t4, t5, t6, t7, t8, t9⟩
      have h12 := a7.tr b10
      have m10 : ∀ i, i < 1846 → Mb.2.1 10 i = row0 i := fun i hi => by
        subst hMb
        show M2.2.1 10 i = row0 i
        rw [h12.2.1]
        exact h10 i hi
      have hRR : RR v 0 2100 0 0 0 0 co (Mb.2.1 10) := RR_new b2 d2 d3 d4 d5 d6 m10
      have hdx : Dx v 0 5 10 20 3 10 0 0 0 rd2 r1 co Mb := by
        have e36 : Mb.1 36 = nI (pc (Mb.2.1 10) v (-1)) := by
          have : pc (Mb.2.1 10) v (-1) = v := fb_ct_all.mpr fun k hk => decide_eq_true ((m10 _ (by omega)).trans (if_pos (by omega)))
          rw [this, hMb]
          rfl
        have g35 : Mb.1 35 = nI 0 := by
          rw [hMb]
          exact (h12.1 35 (by omega)).trans h35
        refine ⟨⟨⟨c2, c3, c4, c5, c6, c7, c8⟩, ⟨?_, ?_, ?_, ?_, ?_, ?_, ?_⟩, b1, b2, by omega, by omega, by omega, by omega, by omega, by omega, by omega, by omega, by omega, by omega⟩, ⟨fun _ => 0, fun _ _ => 0, fun p hp => absurd hp (by omega)⟩, hRR, by omega, by omega, ?_, g35, e36⟩
        · rw [hMb]; rfl
        · rw [hMb]
          exact (h12.1 34 (by omega)).trans h34
        · rw [hMb]
          show M2.2.1 37 0 = _
          rw [h12.2.1]
          exact h370
        · rw [hMb]
          show M2.2.1 37 1 = _
          rw [h12.2.1]
          exact h371
        · rw [hMb]
          show M2.2.1 37 2 = _
          rw [h12.2.1]
          exact h372
        · rw [hMb]
          show M2.2.1 37 3 = _
          rw [h12.2.1]
          exact h373
        · rw [hMb]
          show M2.2.1 37 4 = _
          rw [h12.2.1]
          exact h374
        · rw [b8 11 (by omega), a5 11 (by omega), h11]
      have fpb : FP M Mb := by
        rw [hMb]
        exact h12.fp.tr (fp2 M2 _ _)
      rw [b3, ebnd2, if_neg (show ¬ (1 : Int32) = 0 from by decide), b4, c1, ebnd, d1, ebnd, b5, ebnd2, eLet, eLet, show (sI M2 33 (nI v)).1 33 = nI v from rfl, ← hMb, m_88]
      rcases rdSemi (n := n) hal (by omega) with ⟨rd3, M3, s3, e3, g1, g2, g3, g4, g5, g6, g7⟩ | ⟨rd3, M3, g1, g2, g3, g4⟩
      · rw [g1, ebnd2, egZ1, ebnd4, if_neg (show ¬ (1 : Int32) = 0 from by decide), eLet, h.1.2.1, g2, ebnd]
        rcases textLoop (n := n) (by omega) 600 s3 e3 len n n rd3 r1 co M3 (by omega) (by omega) h600 (by omega) (by omega) g3 (hdx.fn (g5 11 (by omega)) g7).dr with ⟨rd', rr', fo', M', s', e', z1, z2, z3, z4, z5⟩ | ⟨rd', rr', fo', M', z1, z2, z3, z4⟩
        · exact ⟨rd', rr', fo', M', fpb.tr (g7.fp.tr z5), Or.inl ⟨s', e', z1, z2, z3, z4⟩⟩
        · exact ⟨rd', rr', fo', M', fpb.tr (g7.fp.tr z4), Or.inr ⟨z1, z2, z3⟩⟩
      · refine ⟨rd3, r1, co, M3, fpb.tr g4, Or.inr ⟨?_, ?_, g3⟩⟩
        · rw [g1, ebnd2, egZ0, ebnd4, if_pos rfl]
        · rw [g2, ebnd, hn1, parse_dead g3.2.2]
    · have b2 : f_X9_number n M1 (4 : Int32) (64 : Int32) = some (M2, r) := b2
      refine ⟨rd2, rr, fo, _, ((a7.fp.tr b4).tr (fp2 M2 r ((sI M2 33 r).1 33))), Or.inr ⟨?_, ?_, ?_⟩⟩
      · rw [b1, ebnd2, if_pos rfl, ebnd4, if_pos rfl]
      · rw [b2, ebnd2, eLet, eLet, dead r b3.2.2]
      · exact b3
  · obtain ⟨d1, d2, d3⟩ := h.fail (v := 1) (by decide)
    have q2 : ¬ nI (wd B len s e) = (1 : Int32) := fun z => q1 (nI_inj (b := 1) (by omega) (by decide) z)
    refine ⟨sI (sI rd 3 1) 4 (rd.1 6), rr, fo, _, d2.tr (fp2 _ ((sI (sI M 31 1) 32 (M.1 26)).1 29) ((sI (sI (sI M 31 1) 32 (M.1 26)) 33 ((sI (sI M 31 1) 32 (M.1 26)).1 29)).1 33)), Or.inr ⟨?_, ?_, ⟨d1.1, d1.2.1, d1.2.2⟩⟩⟩
    · rw [if_neg q2, c_fail, ebnd2, egZ0, ebnd4, if_pos rfl]
    · rw [decide_eq_false (show ¬ wd B len s e = 0 + 1 by omega), show bI false = 0 from rfl, m_needs0 h.a, ebnd, m_goOnD d1.2.2, ebnd, numD d1.2.2, ebnd2, eLet, eLet, dead _ d1.2.2]
/-- what a parse leaves alone of all that the relation asks for -/
theorem RXx.parsed {M' inp' rd' : OS} (h : RXx P NP E Bs F Pt Ap T LC CC FC D x inp ou ru no rd pa M so) (hf : ∀ j, j < 25 → j ≠ 0 → j ≠ 23 → j ≠ 24 → M'.1 j = M.1 j) (h40 : M'.1 40 = M.1 40) (ha : ∀ j, j ≠ 10 → j ≠ 37 → M'.2.1 j = M.2.1 j) (hl : M'.2.2.1 8 = M.2.2.1 8) (hi : inp'.1 1 = nI 0) (h23 : M'.1 23 = nI 0) (he : rd'.1 3 = M'.1 31 ∧ rd'.1 4 = M'.1 32) : RX D x inp' ou ru no rd' pa M' so := by
  obtain ⟨h1, h2, h3, h4, h5, h6, h7, h8, h9, h10⟩ := h
  refine ⟨P, NP, E, Bs, F, Pt, Ap, T, LC, CC, FC, h1.fr fun j b1 b2 => hf j (by omega) (by omega) (by omega) (by omega), ?_, by rw [ha 9 (by decide) (by decide)]; exact h3, ⟨0, by omega, hi, h23, fun i hi => absurd hi (by omega)⟩, h5.fr h40 (ha 39 (by decide) (by decide)), he, ?_, ?_, ?_, ?_⟩
  · obtain ⟨ln, z, q⟩ := h2
    refine ⟨ln, z, fun p hp => ?_⟩
    rw [hl]
    exact q p hp
  · obtain ⟨nx, k, a1, a2, a3, a4, a5, a6, a7⟩ := h7
    exact ⟨nx, k, a1, a2, a3, a4, by rw [hf 15 (by decide) (by decide) (by decide) (by decide)]; exact a5, a6, by rw [ha 14 (by decide) (by decide)]; exact a7⟩
  · obtain ⟨b, b1, b2, b3⟩ := h8
    exact ⟨b, b1, by rw [hf 16 (by decide) (by decide) (by decide) (by decide)]; exact b2, by rw [ha 13 (by decide) (by decide)]; exact b3⟩
  · rw [hf 17 (by decide) (by decide) (by decide) (by decide), h9]
  · rw [hf 19 (by decide) (by decide) (by decide) (by decide), h10]
theorem lk_parse (h : RXx P NP E Bs F Pt Ap T LC CC FC D x inp ou ru no rd pa M so) (hn : 13000 < n) (hD : 2100 ≤ D) : ∃ x' inp' ru' no' fo' rd' rr' pa' M' r, f_X8_parse n sv x 600 inp ru no fo rd rr pa = some (x', inp', ru', no', fo', rd', rr', pa', r) ∧ f_X9_parse n M = some (M', r) ∧ RX D x' inp' ou ru' no' rd' pa' M' so := by
  obtain ⟨B, len, hTi, h23, h22⟩ := h.2.2.2.1.text
  obtain ⟨Mc, k1, k33, k34, k35, k36, k370, k371, k372, k373, k374, k10, kf, k31, k32⟩ := m_clears (n := n) (by omega) (sI (sI (sI M 0 0) 31 0) 32 (-1))
  have k23 : Mc.1 23 = nI len := (kf.1 23 (by omega)).trans h23
  obtain ⟨M7, hM7⟩ : ∃ M7, M7 = sI (sI (sI Mc 24 (nI len)) 23 0) 25 0 := ⟨_, rfl⟩
  obtain ⟨rd4, hrd4⟩ : ∃ rd4, rd4 = sI (sI (sI (sI rd 3 0) 4 (-1)) 11 0) 7 0 := ⟨_, rfl⟩
  have hT : Tx B len inp M7 := ⟨hTi.1, hTi.2.1, by rw [hM7]; rfl, fun i hi => ⟨(hTi.2.2 i hi).1, (hTi.2.2 i hi).2, by
    rw [hM7]
    show Mc.2.1 22 i = _
    rw [kf.2.1 22 (by decide) (by decide)]
    exact h22 i hi⟩⟩
  obtain ⟨rd5, a1, a2, a3, a4⟩ := c_advance (n := n) (rd := rd4) hT (by omega) (e0 := 0) (by omega) (by rw [hrd4]; rfl)
  obtain ⟨M8, b1, b2, b3⟩ := m_nextTok (n := n) hT (by omega) (e0 := 0) (by omega) (by rw [hM7]; rfl)
  obtain ⟨t1, t2, t3⟩ := tok_ok (B := B) (len := len) (e0 := 0) (by omega)
  have hal : AL B len inp (tS B len 0) (tE B len 0) rd5 M8 := ⟨hT.fn b3, t1, t2, t3, a2, b2, by rw [a3 3 (by omega), hrd4]; rfl, by rw [a3 4 (by omega), hrd4]; rfl, by
    rw [b3.1 31 (by omega), hM7]
    exact k31, by
    rw [b3.1 32 (by omega), hM7]
    exact k32⟩
  have s37 : M8.2.1 = Mc.2.1 := by
    rw [b3.2.1, hM7]
    rfl
  obtain ⟨rd6, rr6, fo6, M9, g0, g⟩ := textAll (n := n) hal (by rw [a3 11 (by omega), hrd4]; rfl) (by rw [b3.1 34 (by omega), hM7]; exact k34) (by rw [b3.1 35 (by omega), hM7]; exact k35) (by rw [s37]; exact k370) (by rw [s37]; exact k371) (by rw [s37]; exact k372) (by rw [s37]; exact k373) (by rw [s37]; exact k374) (fun i hi => by rw [s37]; exact k10 i hi) (by omega) rr fo
  -- what is the same from the start on
  have f1 : ∀ j, j < 25 → j ≠ 0 → j ≠ 23 → j ≠ 24 → M9.1 j = M.1 j := fun j q1 q2 q3 q4 => by
    rw [g0.1 j (by omega), b3.1 j (by omega), hM7, sI_o (by omega), sI_o q3, sI_o q4, kf.1 j (by omega), sI_o (by omega), sI_o (by omega), sI_o q2]
  have f40 : M9.1 40 = M.1 40 := by
    rw [g0.1 40 (by omega), b3.1 40 (by omega), hM7, sI_o (by omega), sI_o (by omega), sI_o (by omega), kf.1 40 (by omega), sI_o (by omega), sI_o (by omega), sI_o (by omega)]
  have f23 : M9.1 23 = nI 0 := by
    rw [g0.1 23 (by omega), b3.1 23 (by omega), hM7]
    rfl
  have fa : ∀ j, j ≠ 10 → j ≠ 37 → M9.2.1 j = M.2.1 j := fun j q1 q2 => by
    rw [g0.2.1 j q1 q2, s37, kf.2.1 j q1 q2]
    rfl
  have fl : M9.2.2.1 8 = M.2.2.1 8 := by
    rw [g0.2.2 8 (by decide), b3.2.2, hM7]
    show Mc.2.2.1 8 = _
    rw [kf.2.2 8 (by decide)]
    rfl
  have hm : f_X9_parse n M = bnd (f_X9_isWord n M8 (0 : Int32)) (fun (r_9 : Int32) => bnd (f_X9_needs n M8 r_9 (1 : Int32)) (fun (th_10 : OS) => bnd (f_X9_goOn n th_10) (fun (th_11 : OS) => bnd2 (f_X9_number n th_11 (4 : Int32) (64 : Int32)) (fun (th_12 : OS) (r_13 : Int32) => Let (sI th_12 33 r_13) (fun th_14 : OS => Let (sI th_14 36 (th_14.1 33)) (fun th_15 : OS => if (th_15.1 27) = (3 : Int32) then (j_X9_parse_88 n th_15 (1 : Int32)) else (j_X9_parse_88 n th_15 (0 : Int32)))))))) := by
    unfold f_X9_parse
    rw [eLet, eLet, eLet, k1, ebnd, k23, eLet, eLet, eLet, ← hM7, b1, ebnd]
  have hc : f_X4_readText n rd 600 inp rr fo = bnd4 (f_X4_readPages n rd5 600 inp rr fo) (fun (th_6 : OS) (ru_7 : OS) (co_8 : OS) (r_9 : Int32) => if r_9 = 0 then (some (th_6, ru_7, co_8, (0 : Int32))) else (Let (inp.1 1) (fun v1_10 : Int32 => l_X4_readText_41 n 600 inp n th_6 ru_7 co_8 v1_10))) := by
    unfold f_X4_readText
    rw [eLet, eLet, eLet, eLet, ← hrd4, a1, ebnd]
  unfold f_X8_parse
  rw [hm, hc]
  rcases g with ⟨s', e', g1, g2, g3, g4⟩ | ⟨g1, g2, g3⟩
  · obtain ⟨P', NP', E', Bs', F', Pt', Ap', LC', CC', w', ⟨⟨u0, u1, u2, u3, u4, u5, u6⟩, ⟨v0, v1, v2, v3, v4, v5, v6⟩, p1, p2, p3, p4⟩, hN, hRR, hL, hw, h11, h35, h36⟩ := g4
    obtain ⟨Mt, m0, m1, m2, m3, m4, m5, m6, m7, m8, m15, m16, m9, m10, m11⟩ := m_takes (n := n) v0 v1 p3 (by omega)
    obtain ⟨ru', r1, r2, r3⟩ := c_rcopy (n := n) ru rr6
    obtain ⟨no', y1, y2⟩ := c_copy (n := n) no fo6
    obtain ⟨h1, h2, h3, h4, h5, h6, h7, h8, h9, h10⟩ := h
    obtain ⟨nx, k, c1, c2, c3, c4, c5, c6, c7⟩ := h7
    refine ⟨sI x 8 0, sI inp 1 0, ru', no', fo6, rd6, rr6, pI pa 2 0, Mt, nI NP', ?_, ?_, P', NP', E', Bs', F', Pt', Ap', 0, LC', CC', 0, ⟨⟨(r2 0 (by omega)).trans u0, (r2 1 (by omega)).trans u1, (r2 2 (by omega)).trans u2, (r2 3 (by omega)).trans u3, (r2 4 (by omega)).trans u4, (r2 5 (by omega)).trans u5, (r2 6 (by omega)).trans u6⟩, ⟨m1, m2, m3.trans v2, m4.trans v3, m5.trans v4, m6.trans v5, m7.trans v6⟩, p1, p2, p3, p4⟩, ?_, ?_, ⟨0, by omega, rfl, ?_, fun i hi => absurd hi (by omega)⟩, ?_, ?_, ?_, ⟨false, rfl, m16, fun z => absurd z (by decide)⟩, ?_, ?_⟩
    · rw [g1, ebnd4, eLet, if_neg (show ¬ (1 : Int32) = 0 from by decide), r1, ebnd, y1, ebnd]
      unfold f_X3_forget
      rw [eLet, ebnd, eLet, r2 1 (by omega), u1]
    · rw [g2]
      unfold j_X9_parse_117
      rw [m_fineA g3.a, ebnd, if_neg (show ¬ (1 : Int32) = 0 from by decide), m0, ebnd, m2]
    · obtain ⟨ln, y, hy⟩ := hN
      refine ⟨ln, y, fun p hp => ?_⟩
      obtain ⟨z1, z2, z3, z4, z5⟩ := hy p hp
      refine ⟨z1, z2, fun i hi => ⟨(z3 i hi).1, (z3 i hi).2.1, ?_⟩, ?_, ?_⟩
      · rw [r3 _ (by omega)]
        exact (z3 i hi).2.2
      · rw [r3 _ (by omega)]
        exact z4
      · rw [m11 p hp]
        exact z5
    · exact (hRR.cpy y2 m10).mono hD
    · rw [m8 23 (by decide) (by decide) (by decide)]
      exact f23
    · refine h5.fr ?_ ?_
      · rw [m8 40 (by decide) (by decide) (by decide), f40]
      · rw [m9 39 (by decide), fa 39 (by decide) (by decide)]
    · rw [m8 31 (by decide) (by decide) (by decide), m8 32 (by decide) (by decide) (by decide), g3.2.2.2.2.2.2.1, g3.2.2.2.2.2.2.2.1, g3.2.2.2.2.2.2.2.2.1, g3.2.2.2.2.2.2.2.2.2]
      exact ⟨rfl, rfl⟩
    · refine ⟨nx, 0, c1, by omega, c3, rfl, m15, ?_, fun i hi => absurd hi (by omega)⟩
      show pa.2.1 = 8 ∨ _
      rcases c6 with q | q
      · exact Or.inl q
      · exact Or.inr ⟨q.1, q.2.1, by omega⟩
    · rw [m8 17 (by decide) (by decide) (by decide), f1 17 (by decide) (by decide) (by decide) (by decide), h9]
    · rw [m8 19 (by decide) (by decide) (by decide), f1 19 (by decide) (by decide) (by decide) (by decide), h10]
  · refine ⟨x, sI inp 1 0, ru, no, fo6, rd6, rr6, pa, M9, -1, ?_, g2, h.parsed f1 f40 fa fl rfl f23 ⟨g3.1, g3.2.1⟩⟩
    rw [g1, ebnd4, eLet, if_pos rfl]
end PARSE
