/-! the statements, one kind after another -/
section STMS
variable {n len P NP E Bs F Pt Ap LC CC w : Nat} {inp rd rr fo M : OS} {B : Nat → Nat}
theorem m_68D (h : M.1 31 ≠ 0) : j_X9_readsProcess_68 n M = some M := by
  unfold j_X9_readsProcess_68
  rw [m_fineD h, ebnd, if_pos rfl]
/-- a process -/
theorem stProc {s e : Nat} (h : AL B len inp s e rd M) (hd : Dx P NP E Bs F Pt Ap LC CC w rd rr fo M) (hk : kd B len s ≠ 0) (hn : 700 < n) : (∃ rd1 rr1 M1 s1 e1, f_X4_readNewProcess n rd 600 inp rr = some (rd1, rr1, 1) ∧ f_X9_readsProcess n M = some M1 ∧ AL B len inp s1 e1 rd1 M1 ∧ DR rd1 rr1 fo M1 ∧ s < s1 ∧ FP M M1) ∨ (∃ rd1 rr1 M1, f_X4_readNewProcess n rd 600 inp rr = some (rd1, rr1, 0) ∧ f_X9_readsProcess n M = some M1 ∧ DD rd1 M1 ∧ FP M M1) := by
  have hr1 := hd.1.1.2.1
  have h34 := hd.1.2.1.2.1
  have hNP : NP ≤ 8 := hd.1.2.2.2.2.1
  have hse := h.2.1.2.2.1 hk
  unfold f_X4_readNewProcess f_X9_readsProcess
  rw [hr1, h34]
  by_cases q8 : NP < 8
  · rw [if_pos (show nI NP < (8 : Int32) from nI_lt (b := 8) q8 (by decide)), if_neg (show ¬ (8 : Int32) ≤ nI NP from nI_ge (b := 8) q8 (by decide))]
    obtain ⟨rd', M', s', e', a1, a2, a3, a4, a5, a6, a7⟩ := stepBoth h hn
    have hd' := hd.fn (a5 11 (by omega)) a7
    have hx : ∀ {β : Type} (g : OS → Option β), bnd (f_X9_goOn n M) g = g M' := fun g => by rw [m_goOnA h.a, a2, ebnd]
    unfold j_X9_readsProcess_15
    rw [a1, ebnd, c_isName a3, ebnd, m_needs1, ebnd, hx, m_isName a3, ebnd]
    cases hi : isN B len s' e' with
    | false =>
      obtain ⟨d1, d2, d3⟩ := a3.fail (v := 1) (by decide)
      refine Or.inr ⟨_, rr, _, ?_, ?_, d1, a7.fp.tr d2⟩
      · rw [if_pos (show bI false = 0 from rfl), c_fail, ebnd2, egZ0]
      · rw [show bI false = 0 from rfl, m_needs0 a3.a, ebnd, m_fineD d1.2.2, ebnd, if_pos rfl, m_68D d1.2.2]
    | true =>
      obtain ⟨o, o1, o2, o3, k4, q6, h30⟩ := nameIn a3 hi hd'.2.1 hr1 hd'.1.2.1.2.1 hNP hn
      rw [if_neg (show ¬ bI true = 0 from by decide), o1, ebnd, show bI true = 1 from rfl, m_needs1, ebnd, m_fineA a3.a, ebnd, if_neg (show ¬ (1 : Int32) = 0 from by decide), o2, ebnd]
      cases o with
      | some p =>
        have hp := o3 p rfl
        obtain ⟨d1, d2, d3⟩ := a3.fail (v := 3) (by decide)
        refine Or.inr ⟨_, rr, _, ?_, ?_, d1, a7.fp.tr d2⟩
        · rw [if_neg (show ¬ toI (some p) = -1 from nI_m1 p (by omega)), c_fail, ebnd2, egZ0]
        · rw [if_neg (show ¬ toI (some p) = -1 from nI_m1 p (by omega)), m_needs0 a3.a, ebnd, m_68D d1.2.2]
      | none =>
        have hse' := a3.2.1.2.2.1 (by omega)
        obtain ⟨r2, q1, q2, q3, q4, q5, q7⟩ := c_addProcess (n := n) a3.1 a3.2.1.1 a3.2.1.2.1 q6 q8 hr1 hn
        obtain ⟨Mb, hMb⟩ : ∃ Mb, Mb = sI (sL M' 38 (vp_updL (M'.2.2.1 38) NP (M'.2.2.2 30))) 34 (nI (NP + 1)) := ⟨_, rfl⟩
        have hal : AL B len inp s' e' rd' Mb := by
          subst hMb
          obtain ⟨t1, t2, t3, t4, t5, t6, t7, t8, t9⟩ := a3
          exact ⟨t1, t2, t3, t4, t5, t6, t7, t8, t9⟩
        obtain ⟨rd2, M2, s2, e2, b1, b2, b3, b4, b5, b6, b7⟩ := stepBoth hal hn
        have hdb : Dx P (NP + 1) E Bs F Pt Ap LC CC w rd' r2 fo Mb := by
          obtain ⟨⟨⟨u0, u1, u2, u3, u4, u5, u6⟩, ⟨v0, v1, v2⟩, p1, p2, p3, p4⟩, hN, hR, hL, hw, h11, h35, h36⟩ := hd'
          subst hMb
          refine ⟨⟨⟨by rw [q3 0 (by decide), u0], q2, by rw [q3 2 (by decide), u2], by rw [q3 3 (by decide), u3], by rw [q3 4 (by decide), u4], by rw [q3 5 (by decide), u5], by rw [q3 6 (by decide), u6]⟩, ⟨v0, rfl, v2⟩, p1, p2, by omega, p4⟩, ?_, ⟨hR.1.moreN, hR.2⟩, hL, hw, h11, h35, h36⟩
          refine hN.add (B := B) (s := s') (e := e') (a3.2.2.1 k4) hse' q6 q4 q5 q7 ?_ fun p hp => ?_
          · show vp_updL (M'.2.2.1 38) NP (M'.2.2.2 30) NP = _
            rw [pk_uLs, h30]
          · show vp_updL (M'.2.2.1 38) NP (M'.2.2.2 30) p = M'.2.2.1 38 p
            exact if_neg (by omega)
        refine Or.inl ⟨rd2, r2, M2, s2, e2, ?_, ?_, b3, (hdb.fn (b5 11 (by omega)) b7).dr, ?_, ?_⟩
        · rw [if_pos (show toI none = -1 from rfl), a3.2.2.2.2.1.1, a3.2.2.2.2.1.2.1, q1, ebnd, b1, ebnd]
        · rw [if_pos (show toI none = -1 from rfl), m_needs1, ebnd]
          unfold j_X9_readsProcess_68
          rw [m_fineA a3.a, ebnd, if_neg (show ¬ (1 : Int32) = 0 from by decide), hd'.1.2.1.2.1, egN q8 (by decide), eLet, nI_clamp (by omega), show (sL M' 38 (vp_updL (M'.2.2.1 38) NP (M'.2.2.2 30))).1 34 = nI NP from hd'.1.2.1.2.1, nI_1, eLet, ← hMb, m_goOnA hal.a, b2, ebnd]
        · omega
        · refine a7.fp.tr (FP.tr ?_ b7.fp)
          subst hMb
          exact ⟨fun j hj => sI_o (by omega), fun _ _ _ => rfl, fun j hj => if_neg hj⟩
  · rw [if_neg (show ¬ nI NP < (8 : Int32) from nI_nlt (a := NP) (b := 8) (by omega) (by omega)), if_pos (show (8 : Int32) ≤ nI NP from nI_le (a := 8) (by omega) (by omega))]
    obtain ⟨d1, d2, d3⟩ := h.fail (v := 4) (by decide)
    obtain ⟨b, hb⟩ := isNameSome (n := n) (M := sI (sI M 31 4) 32 (M.1 26))
    refine Or.inr ⟨_, rr, _, ?_, ?_, d1, d2⟩
    · rw [c_fail, ebnd2, egZ0]
    · unfold j_X9_readsProcess_15
      rw [m_needs0 h.a, ebnd, m_goOnD d1.2.2, ebnd, hb, ebnd, m_needsD d1.2.2, ebnd, m_fineD d1.2.2, ebnd, if_pos rfl, m_68D d1.2.2]
/-- the model's dead ways through a loan and a claim -/
theorem loanD (h : M.1 31 ≠ 0) (h34 : M.1 34 = nI NP) (hNP : NP ≤ 8) (hn : 700 < n) (v : Int32) : j_X9_readsLoan_18 n M v = some M ∧ j_X9_readsAsk_18 n M v = some M := by
  obtain ⟨r, hr⟩ := ownerD (n := n) h h34 hNP hn
  constructor
  · unfold j_X9_readsLoan_18
    rw [m_needsD h, ebnd, m_goOnD h, ebnd, hr, ebnd2, numD h, ebnd2, numD h, ebnd2, m_fineD h, ebnd, if_pos rfl]
  · unfold j_X9_readsAsk_18
    rw [m_needsD h, ebnd, m_goOnD h, ebnd, hr, ebnd2, numD h, ebnd2, numD h, ebnd2, m_fineD h, ebnd, if_pos rfl]
/-- owner, pages, term: read on both sides -/
theorem rdThree {s e b : Nat} (h : AL B len inp s e rd M) (hN : Nd NP rr M) (hr1 : rr.1 1 = nI NP) (h34 : M.1 34 = nI NP) (hNP : NP ≤ 8) (hb : b < 2 ^ 30) (hn : 700 < n) : (∃ rd2 rd3 rd4 M2 M3 M4 s4 e4 p g t, p < NP ∧ 1 ≤ g ∧ g ≤ b ∧ 1 ≤ t ∧ t ≤ 99 ∧ f_X4_readProcess n rd 600 inp rr = some (rd2, 1) ∧ f_X4_readNumber n rd2 600 inp 1 (nI b) = some (rd3, 1) ∧ rd3.1 10 = nI g ∧ f_X4_readNumber n rd3 600 inp 1 99 = some (rd4, 1) ∧ rd4.1 9 = nI p ∧ rd4.1 10 = nI t ∧ f_X9_readsOwner n M = some (M2, nI p) ∧ Fn M M2 ∧ f_X9_number n M2 1 (nI b) = some (M3, nI g) ∧ f_X9_number n M3 1 99 = some (M4, nI t) ∧ AL B len inp s4 e4 rd4 M4 ∧ s ≤ s4 ∧ rd4.1 11 = rd.1 11 ∧ Fn M M4) ∨ (∃ rd5 M5, DD rd5 M5 ∧ FP M M5 ∧ (f_X4_readProcess n rd 600 inp rr = some (rd5, 0) ∨ (∃ rd2, f_X4_readProcess n rd 600 inp rr = some (rd2, 1) ∧ (f_X4_readNumber n rd2 600 inp 1 (nI b) = some (rd5, 0) ∨ (∃ rd3, f_X4_readNumber n rd2 600 inp 1 (nI b) = some (rd3, 1) ∧ f_X4_readNumber n rd3 600 inp 1 99 = some (rd5, 0))))) ∧ ∃ (M2 M3 : OS) (r2 : Int32) (r3 : Int32 → Int32) (r4 : Int32), f_X9_readsOwner n M = some (M2, r2) ∧ (M2.1 31 = 0 → Fn M M2) ∧ (M2.1 31 ≠ 0 → M2 = M5 ∧ M3 = M5) ∧ (∀ b', (M2.1 31 = 0 → b' = nI b) → f_X9_number n M2 1 b' = some (M3, r3 b')) ∧ f_X9_number n M3 1 99 = some (M5, r4)) := by
  rcases rdOwner h hN hr1 h34 hNP hn with ⟨rd2, M2, s2, e2, p, hp, a1, a2, a3, a4, a5, a6, a7, a8⟩ | ⟨rd5, M5, r, a1, a2, a3, a4, a5⟩
  · rcases rdNum (a := 1) (b := b) a4 (by decide) hb hn with ⟨rd3, M3, s3, e3, g, b1, b2, b3, b4, b5, b6, b7, b8, b9, b10⟩ | ⟨rd5, M5, r, b1, b2, b3, b4, b5⟩
    · rcases rdNum (a := 1) (b := 99) b6 (by decide) (by decide) hn with ⟨rd4, M4, s4, e4, t, c1, c2, c3, c4, c5, c6, c7, c8, c9, c10⟩ | ⟨rd5, M5, r, c1, c2, c3, c4, c5⟩
      · exact Or.inl ⟨rd2, rd3, rd4, M2, M3, M4, s4, e4, p, g, t, hp, b1, b2, c1, c2, a1, b3, b4, c3, by rw [c8 9 (by omega), b8 9 (by omega), a2], c4, a3, a8, b5, c5, c6, by omega, by rw [c8 11 (by omega), b8 11 (by omega), a6 11 (by omega)], (a8.tr b10).tr c10⟩
      · refine Or.inr ⟨rd5, M5, c3, ((a8.tr b10).fp).tr c4, Or.inr ⟨rd2, a1, Or.inr ⟨rd3, b3, c1⟩⟩, M2, M3, nI p, fun _ => nI g, r, a3, fun _ => a8, fun z => absurd a4.a z, fun b' hb' => ?_, c2⟩
        rw [hb' a4.a]
        exact b5
    · refine Or.inr ⟨rd5, M5, b3, a8.fp.tr b4, Or.inr ⟨rd2, a1, Or.inl b1⟩, M2, M5, nI p, fun _ => r, M5.1 29, a3, fun _ => a8, fun z => absurd a4.a z, fun b' hb' => ?_, numD b3.2.2 _ _⟩
      rw [hb' a4.a]
      exact b2
  · exact Or.inr ⟨rd5, M5, a3, a4, Or.inl a1, M5, M5, r, fun _ => M5.1 29, M5.1 29, a2, fun z => absurd z a3.2.2, fun _ => ⟨rfl, rfl⟩, fun b' _ => numD a3.2.2 _ _, numD a3.2.2 _ _⟩
theorem pc_ask {m : Nat → Int32} {q : Nat} (hq : q < 60) (hP : P ≤ 64) (p g t a v : Int32) : pc (askM m q p g t a) P v = pc m P v := by
  refine pc_sm (fun i h1 h2 => ?_) hP v
  unfold askM
  rw [upd_n (by omega), upd_n (by omega), upd_n (by omega), upd_n (by omega), upd_n (by omega), upd_n (by omega), upd_n (by omega), upd_n (by omega)]
/-- a claim -/
theorem stAsk {s e : Nat} (h : AL B len inp s e rd M) (hd : Dx P NP E Bs F Pt Ap LC CC w rd rr fo M) (hk : kd B len s ≠ 0) (hn : 700 < n) : (∃ rd1 fo1 M1 s1 e1, f_X4_readClaim n rd 600 inp rr fo = some (rd1, fo1, 1) ∧ f_X9_readsAsk n M = some M1 ∧ AL B len inp s1 e1 rd1 M1 ∧ DR rd1 rr fo1 M1 ∧ s < s1 ∧ FP M M1) ∨ (∃ rd1 fo1 M1, f_X4_readClaim n rd 600 inp rr fo = some (rd1, fo1, 0) ∧ f_X9_readsAsk n M = some M1 ∧ DD rd1 M1 ∧ FP M M1) := by
  have hr1 := hd.1.1.2.1
  have hr0 := hd.1.1.1
  have hNP : NP ≤ 8 := hd.1.2.2.2.2.1
  have h64 : P ≤ 64 := hd.1.2.2.2.1
  have hRR := hd.2.2.1
  have hse := h.2.1.2.2.1 hk
  unfold f_X4_readClaim f_X9_readsAsk
  rw [hRR.1.claims, gq7, cl7, eLet, hRR.1.mclaims]
  by_cases q60 : CC < 60
  · rw [if_pos (show nI CC < (60 : Int32) from nI_lt (b := 60) q60 (by decide)), if_neg (show ¬ (60 : Int32) ≤ nI CC from nI_ge (b := 60) q60 (by decide))]
    obtain ⟨rd', M', s', e', a1, a2, a3, a4, a5, a6, a7⟩ := stepBoth h hn
    have hd' := hd.fn (a5 11 (by omega)) a7
    have hx : ∀ {β : Type} (g : OS → Option β), bnd (f_X9_goOn n M) g = g M' := fun g => by rw [m_goOnA h.a, a2, ebnd]
    unfold j_X9_readsAsk_18
    rw [a1, ebnd, m_needs1, ebnd, hx, hr0]
    rcases rdThree (b := P) a3 hd'.2.1 hr1 hd'.1.2.1.2.1 hNP (by omega) hn with ⟨rd2, rd3, rd4, M2, M3, M4, s4, e4, p, g, t, hp, g1, g2, t1, t2, b1, b2, b3, b4, b5, b6, b7, b8, b9, b10, b11, b12, b13, b14⟩ | ⟨rd5, M5, d1, d2, d3, M2, M3, r2, r3, r4, d4, d5, d6, d7, d8⟩
    · have hd4 := hd'.fn b13 b14
      have hRR4 := hd4.2.2.1
      obtain ⟨Mb, hMb⟩ : ∃ Mb, Mb = sA M4 10 (askM (M4.2.1 10) CC (nI p) (nI g) (nI t) (M4.2.1 10 0)) := ⟨_, rfl⟩
      have hT := hRR4.1.time
      refine Or.inl ⟨rd4, askC fo CC (nI p) (nI g) (nI t) (fo.1 0), Mb, s4, e4, ?_, ?_, ?_, ?_, by omega, ?_⟩
      · rw [b1, ebnd2, if_neg (show ¬ (1 : Int32) = 0 from by decide), b2, ebnd2, if_neg (show ¬ (1 : Int32) = 0 from by decide), eLet, b4, ebnd2, if_neg (show ¬ (1 : Int32) = 0 from by decide), b3, b5, b6, c_addClaim q60 hRR.1.claims, ebnd2]
      · rw [b7, ebnd2, show M2.1 33 = nI P from (b8.1 33 (by omega)).trans hd'.1.2.1.1, b9, ebnd2, b10, ebnd2, m_fineA b11.a, ebnd, if_neg (show ¬ (1 : Int32) = 0 from by decide), m_asks q60 hRR4.1.mclaims, ebnd2, eLet, ← hMb]
      · subst hMb
        obtain ⟨z1, z2, z3, z4, z5, z6, z7, z8, z9⟩ := b11
        exact ⟨z1, z2, z3, z4, z5, z6, z7, z8, z9⟩
      · have e0 : fo.1 0 = M4.2.1 10 0 := hT.2.1.trans hT.1.symm
        obtain ⟨w1, w2, w3, w4, w5, w6, w7, w8⟩ := hd4
        subst hMb
        rw [e0]
        exact ⟨P, NP, E, Bs, F, Pt, Ap, LC, CC + 1, w, w1, w2, w3.ask q60 hp g1 g2 t2 _, w4, w5, w6, w7, w8.trans (congrArg nI (pc_ask q60 h64 _ _ _ _ _).symm)⟩
      · subst hMb
        exact a7.fp.tr (b14.fp.tr (FP.arr M4 _ (Or.inl rfl)))
    · refine Or.inr ⟨rd5, fo, M5, ?_, ?_, d1, a7.fp.tr d2⟩
      · rcases d3 with q1 | ⟨rd2, q1, q2 | ⟨rd3, q2, q3⟩⟩
        · rw [q1, ebnd2, if_pos rfl]
        · rw [q1, ebnd2, if_neg (show ¬ (1 : Int32) = 0 from by decide), q2, ebnd2, if_pos rfl]
        · rw [q1, ebnd2, if_neg (show ¬ (1 : Int32) = 0 from by decide), q2, ebnd2, if_neg (show ¬ (1 : Int32) = 0 from by decide), eLet, q3, ebnd2, if_pos rfl]
      · rw [d4, ebnd2, d7 _ (fun z => ((d5 z).1 33 (by omega)).trans hd'.1.2.1.1), ebnd2, d8, ebnd2, m_fineD d1.2.2, ebnd, if_pos rfl]
  · rw [if_neg (show ¬ nI CC < (60 : Int32) from nI_nlt (a := CC) (b := 60) (by omega) (by have := hRR.1.C60; omega)), if_pos (show (60 : Int32) ≤ nI CC from nI_le (a := 60) (by omega) (by have := hRR.1.C60; omega))]
    obtain ⟨d1, d2, d3⟩ := h.fail (v := 4) (by decide)
    refine Or.inr ⟨_, fo, _, ?_, ?_, d1, d2⟩
    · rw [c_fail, ebnd2, egZ0]
    · have q := (loanD (n := n) (v := 1) d1.2.2 (d3.trans hd.1.2.1.2.1) hNP hn).2
      unfold j_X9_readsAsk_18 at q ⊢
      rw [m_needs0 h.a, ebnd]
      rw [m_needs1, ebnd] at q
      exact q
/-- a loan -/
theorem stLoan {s e : Nat} (h : AL B len inp s e rd M) (hd : Dx P NP E Bs F Pt Ap LC CC w rd rr fo M) (hk : kd B len s ≠ 0) (hn : 700 < n) : (∃ rd1 fo1 M1 s1 e1, f_X4_readLoan n rd 600 inp rr fo = some (rd1, fo1, 1) ∧ f_X9_readsLoan n M = some M1 ∧ AL B len inp s1 e1 rd1 M1 ∧ DR rd1 rr fo1 M1 ∧ s < s1 ∧ FP M M1) ∨ (∃ rd1 fo1 M1, f_X4_readLoan n rd 600 inp rr fo = some (rd1, fo1, 0) ∧ f_X9_readsLoan n M = some M1 ∧ DD rd1 M1 ∧ FP M M1) := by
  have hr1 := hd.1.1.2.1
  have hNP : NP ≤ 8 := hd.1.2.2.2.2.1
  have h64 : P ≤ 64 := hd.1.2.2.2.1
  have hRR := hd.2.2.1
  have hL20 := hd.2.2.2.1
  have hfr : fo.1 2 = nI (pc (M.2.1 10) P (-1)) := hRR.1.1.2.2.1
  have hpc : pc (M.2.1 10) P (-1) ≤ 64 := Nat.le_trans (fb_ct_le _ P) h64
  have hse := h.2.1.2.2.1 hk
  unfold f_X4_readLoan f_X9_readsLoan
  rw [hRR.1.loans, gq6, cl6, eLet, hRR.1.mloans]
  by_cases q20 : LC < 20
  · rw [if_pos (show nI LC < (20 : Int32) from nI_lt (b := 20) q20 (by decide)), if_neg (show ¬ (20 : Int32) ≤ nI LC from nI_ge (b := 20) q20 (by decide))]
    obtain ⟨rd', M', s', e', a1, a2, a3, a4, a5, a6, a7⟩ := stepBoth h hn
    have hd' := hd.fn (a5 11 (by omega)) a7
    have h36 : M'.1 36 = nI (pc (M.2.1 10) P (-1)) := (a7.1 36 (by omega)).trans hd.2.2.2.2.2.2.2
    have hx : ∀ {β : Type} (g : OS → Option β), bnd (f_X9_goOn n M) g = g M' := fun g => by rw [m_goOnA h.a, a2, ebnd]
    unfold j_X9_readsLoan_18
    rw [a1, ebnd, m_needs1, ebnd, hx, hfr]
    rcases rdThree (b := pc (M.2.1 10) P (-1)) a3 hd'.2.1 hr1 hd'.1.2.1.2.1 hNP (by omega) hn with ⟨rd2, rd3, rd4, M2, M3, M4, s4, e4, p, g, t, hp, g1, g2, t1, t2, b1, b2, b3, b4, b5, b6, b7, b8, b9, b10, b11, b12, b13, b14⟩ | ⟨rd5, M5, d1, d2, d3, M2, M3, r2, r3, r4, d4, d5, d6, d7, d8⟩
    · have hd4 := hd'.fn b13 b14
      have hRR4 := hd4.2.2.1
      have e10 : M4.2.1 10 = M.2.1 10 := by rw [b14.2.1, a7.2.1]
      have h436 : M4.1 36 = nI (pc (M.2.1 10) P (-1)) := (b14.1 36 (by omega)).trans h36
      obtain ⟨Mb, hMb⟩ : ∃ Mb, Mb = sI (sA M4 10 (lendM (M4.2.1 10) P LC (nI p) g (nI t) (M4.2.1 10 0) (-1))) 36 (nI (pc (M.2.1 10) P (-1) - g)) := ⟨_, rfl⟩
      refine Or.inl ⟨rd4, lendC fo LC (nI p) g (nI t) (fo.1 0) (-1), Mb, s4, e4, ?_, ?_, ?_, ?_, by omega, ?_⟩
      · rw [b1, ebnd2, if_neg (show ¬ (1 : Int32) = 0 from by decide), b2, ebnd2, if_neg (show ¬ (1 : Int32) = 0 from by decide), eLet, b4, ebnd2, if_neg (show ¬ (1 : Int32) = 0 from by decide), b3, b5, b6, c_lend (by omega) (by omega) (by omega) hRR.1.loans, ebnd2]
      · rw [b7, ebnd2, show M2.1 36 = nI (pc (M.2.1 10) P (-1)) from (b8.1 36 (by omega)).trans h36, b9, ebnd2, b10, ebnd2, m_fineA b11.a, ebnd, if_neg (show ¬ (1 : Int32) = 0 from by decide), m_lends (P := P) (by omega) h64 (by rw [e10]; exact g2) (by omega) hRR4.1.mloans, ebnd, eLet, sA_1, h436, pk_sub g2, eLet, ← hMb]
      · subst hMb
        obtain ⟨z1, z2, z3, z4, z5, z6, z7, z8, z9⟩ := b11
        exact ⟨z1, z2, z3, z4, z5, z6, z7, z8, z9⟩
      · obtain ⟨w1, w2, w3, w4, w5, w6, w7, w8⟩ := hd4
        have hl := (w3.1.lend (p := p) (g := g) (d := t) (cl := -1) (by omega) hp (by omega) (by rw [e10]; exact g2)).lowK (K' := 20) (by omega)
        have hp2 := pc_lds (m := M4.2.1 10) (p := nI p) (d := nI t) (t := M4.2.1 10 0) (cl := -1) (l := LC) h64 (by omega) (show g ≤ pc (M4.2.1 10) P (-1) by rw [e10]; exact g2) (-1)
        rw [if_pos rfl, if_neg (fun z => nI_m1 LC (by omega) z.symm), e10] at hp2
        have e2 : lendM (M4.2.1 10) P LC (nI p) g (nI t) (M4.2.1 10 0) (-1) 2 = M4.2.1 10 2 := lendM_o (by omega) (by omega) (by omega)
        have e3 : lendM (M4.2.1 10) P LC (nI p) g (nI t) (M4.2.1 10 0) (-1) 3 = M4.2.1 10 3 := lendM_o (by omega) (by omega) (by omega)
        subst hMb
        refine ⟨P, NP, E, Bs, F, Pt, Ap, LC + 1, CC, w, w1, w2, w3.upd0 hl rfl rfl e2 e3 rfl, by omega, w5, w6, w7, ?_⟩
        show nI (pc (M.2.1 10) P (-1) - g) = nI (pc (lendM (M4.2.1 10) P LC (nI p) g (nI t) (M4.2.1 10 0) (-1)) P (-1))
        rw [e10]
        congr 1
        omega
      · subst hMb
        exact a7.fp.tr (b14.fp.tr ((FP.arr M4 _ (Or.inl rfl)).tr (FP.set _ _ (by omega))))
    · refine Or.inr ⟨rd5, fo, M5, ?_, ?_, d1, a7.fp.tr d2⟩
      · rcases d3 with q1 | ⟨rd2, q1, q2 | ⟨rd3, q2, q3⟩⟩
        · rw [q1, ebnd2, if_pos rfl]
        · rw [q1, ebnd2, if_neg (show ¬ (1 : Int32) = 0 from by decide), q2, ebnd2, if_pos rfl]
        · rw [q1, ebnd2, if_neg (show ¬ (1 : Int32) = 0 from by decide), q2, ebnd2, if_neg (show ¬ (1 : Int32) = 0 from by decide), eLet, q3, ebnd2, if_pos rfl]
      · rw [d4, ebnd2, d7 _ (fun z => ((d5 z).1 36 (by omega)).trans h36), ebnd2, d8, ebnd2, m_fineD d1.2.2, ebnd, if_pos rfl]
  · rw [if_neg (show ¬ nI LC < (20 : Int32) from nI_nlt (a := LC) (b := 20) (by omega) (by omega)), if_pos (show (20 : Int32) ≤ nI LC from nI_le (a := 20) (by omega) (by omega))]
    obtain ⟨d1, d2, d3⟩ := h.fail (v := 4) (by decide)
    refine Or.inr ⟨_, fo, _, ?_, ?_, d1, d2⟩
    · rw [c_fail, ebnd2, egZ0]
    · have q := (loanD (n := n) (v := 1) d1.2.2 (d3.trans hd.1.2.1.2.1) hNP hn).1
      unfold j_X9_readsLoan_18 at q ⊢
      rw [m_needs0 h.a, ebnd]
      rw [m_needs1, ebnd] at q
      exact q
end STMS
