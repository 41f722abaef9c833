/-! what stands once, and the statement -/
section ONCE
variable {n len P NP E Bs F Pt Ap LC CC w : Nat} {inp rd rr fo M : OS} {B : Nat → Nat}
theorem oncebits : ∀ u : Fin 64, ∀ i : Fin 6, (decide (nI u.val &&& wBit (nI (i.val + 3)) = 0) = decide (((nI u.val >>> (nI i.val &&& 31)) &&& 1) = 0)) ∧ nI u.val ||| wBit (nI (i.val + 3)) = nI (u.val ||| 2 ^ i.val) ∧ (nI u.val ||| ((1 : Int32) <<< (nI i.val &&& 31))) = nI (u.val ||| 2 ^ i.val) ∧ (u.val ||| 2 ^ i.val) < 64 := by decide +kernel
theorem onceix : ∀ i : Fin 6, nI (i.val + 3) - 1 - 2 = nI i.val := by decide +kernel
def fst1 (w i : Nat) : Bool := decide (nI w &&& wBit (nI (i + 3)) = 0)
theorem c_first {i : Nat} (hi : i < 6) (hw : w < 64) (h8 : rd.1 8 = nI (i + 3)) (h11 : rd.1 11 = nI w) : f_X4_isFirstOfItsKind n rd = some (sI rd 11 (nI (w ||| 2 ^ i)), bI (fst1 w i)) := by
  obtain ⟨o1, o2, o3, o4⟩ := oncebits ⟨w, hw⟩ ⟨i, hi⟩
  have e : ∀ b : Bool, j_X4_isFirstOfItsKind_20 n rd (bI b) = some (sI rd 11 (nI (w ||| 2 ^ i)), bI b) := fun b => by
    unfold j_X4_isFirstOfItsKind_20
    rw [h8, h11, egN (by omega) (by decide), eLet, egZ, o2]
  unfold f_X4_isFirstOfItsKind fst1
  rw [h8, h11, egN (by omega) (by decide)]
  by_cases q : nI w &&& wBit (nI (i + 3)) = 0
  · rw [if_pos q, decide_eq_true q]
    exact e true
  · rw [if_neg q, decide_eq_false q]
    exact e false
theorem m_first {i : Nat} (hi : i < 6) (hw : w < 64) (h35 : M.1 35 = nI w) : f_X9_readsOnce n M (nI i) = j_X9_readsOnce_17 n (nI i) M (bI (fst1 w i)) := by
  obtain ⟨o1, o2, o3, o4⟩ := oncebits ⟨w, hw⟩ ⟨i, hi⟩
  have o1 : decide (nI w &&& wBit (nI (i + 3)) = 0) = decide (((nI w >>> (nI i &&& 31)) &&& 1) = 0) := o1
  unfold f_X9_readsOnce fst1
  rw [h35, o1]
  by_cases q : ((nI w >>> (nI i &&& 31)) &&& 1) = 0
  · rw [if_pos q, decide_eq_true q]
    rfl
  · rw [if_neg q, decide_eq_false q]
    rfl
/-- the second time on both sides -/
theorem onceTwice {s e i : Nat} (h : AL B len inp s e rd M) (hd : Dx P NP E Bs F Pt Ap LC CC w rd rr fo M) (hi : i < 6) (h8 : rd.1 8 = nI (i + 3)) (hb : fst1 w i = false) : ∃ rd1 M1, f_X4_isFirstOfItsKind n rd = some (sI rd 11 (nI (w ||| 2 ^ i)), 0) ∧ f_X4_fail n (sI rd 11 (nI (w ||| 2 ^ i))) 3 = some (rd1, 0) ∧ f_X9_readsOnce n M (nI i) = some M1 ∧ DD rd1 M1 ∧ FP M M1 := by
  have hw := hd.2.2.2.2.1
  obtain ⟨o1, o2, o3, o4⟩ := oncebits ⟨w, hw⟩ ⟨i, hi⟩
  have hc : f_X4_isFirstOfItsKind n rd = some (sI rd 11 (nI (w ||| 2 ^ i)), 0) := by
    rw [c_first hi hw h8 hd.2.2.2.2.2.1, hb]
    rfl
  obtain ⟨d1, d2, d3⟩ := h.fail (v := 3) (by decide)
  refine ⟨sI (sI (sI rd 11 (nI (w ||| 2 ^ i))) 3 3) 4 (rd.1 6), sI (sI (sI M 31 3) 32 (M.1 26)) 35 (nI (w ||| 2 ^ i)), hc, ?_, ?_, ⟨rfl, d1.2.1, show (3 : Int32) ≠ 0 from by decide⟩, d2.tr (FP.set _ _ (by omega))⟩
  · rw [c_fail]
    rfl
  · rw [m_first hi hw hd.2.2.2.2.2.2.1, hb, show bI false = 0 from rfl]
    unfold j_X9_readsOnce_17
    rw [m_needs0 h.a, ebnd, show (sI (sI M 31 3) 32 (M.1 26)).1 35 = nI w from hd.2.2.2.2.2.2.1, show (nI w ||| ((1 : Int32) <<< (nI i &&& 31))) = nI (w ||| 2 ^ i) from o3, eLet, m_goOnD (M := sI (sI (sI M 31 3) 32 (M.1 26)) 35 (nI (w ||| 2 ^ i))) (show (3 : Int32) ≠ 0 from by decide), ebnd, m_fineD (M := sI (sI (sI M 31 3) 32 (M.1 26)) 35 (nI (w ||| 2 ^ i))) (show (3 : Int32) ≠ 0 from by decide), ebnd, if_pos rfl]
/-- the first time on both sides -/
theorem onceFirst {s e i : Nat} (h : AL B len inp s e rd M) (hd : Dx P NP E Bs F Pt Ap LC CC w rd rr fo M) (hi : i < 6) (h8 : rd.1 8 = nI (i + 3)) (hb : fst1 w i = true) (hk : kd B len s ≠ 0) (hn : 700 < n) : ∃ rd1 rd2 M2 s2 e2, rd1.1 8 = nI (i + 3) ∧ f_X4_isFirstOfItsKind n rd = some (rd1, 1) ∧ f_X4_advance n rd1 600 inp = some rd2 ∧ f_X9_readsOnce n M (nI i) = (if nI i = (5 : Int32) then bnd (f_X9_readsOrder n M2) (fun (th_8 : OS) => some th_8) else (if nI i = (4 : Int32) then j_X9_readsOnce_65 n (nI i) M2 (0 : Int32) else j_X9_readsOnce_65 n (nI i) M2 (1 : Int32))) ∧ AL B len inp s2 e2 rd2 M2 ∧ Dx P NP E Bs F Pt Ap LC CC (w ||| 2 ^ i) rd2 rr fo M2 ∧ s < s2 ∧ FP M M2 := by
  have hw := hd.2.2.2.2.1
  have hse := h.2.1.2.2.1 hk
  obtain ⟨o1, o2, o3, o4⟩ := oncebits ⟨w, hw⟩ ⟨i, hi⟩
  have o4 : w ||| 2 ^ i < 64 := o4
  obtain ⟨Mb, hMb⟩ : ∃ Mb, Mb = sI M 35 (nI (w ||| 2 ^ i)) := ⟨_, rfl⟩
  have hal : AL B len inp s e (sI rd 11 (nI (w ||| 2 ^ i))) Mb := by
    subst hMb
    obtain ⟨t1, t2, t3, t4, t5, t6, t7, t8, t9⟩ := h
    exact ⟨t1, t2, t3, t4, t5, t6, t7, t8, t9⟩
  obtain ⟨rd2, M2, s2, e2, a1, a2, a3, a4, a5, a6, a7⟩ := stepBoth hal hn
  have hdb : Dx P NP E Bs F Pt Ap LC CC (w ||| 2 ^ i) (sI rd 11 (nI (w ||| 2 ^ i))) rr fo Mb := by
    obtain ⟨w1, w2, w3, w4, w5, w6, w7, w8⟩ := hd
    subst hMb
    exact ⟨w1, w2, w3, w4, o4, rfl, rfl, w8⟩
  refine ⟨_, rd2, M2, s2, e2, ?_, ?_, a1, ?_, a3, hdb.fn (a5 11 (by omega)) a7, by omega, ?_⟩
  · rw [sI_o (by decide)]
    exact h8
  · rw [c_first hi hw h8 hd.2.2.2.2.2.1, hb]
    rfl
  · rw [m_first hi hw hd.2.2.2.2.2.2.1, hb, show bI true = 1 from rfl]
    unfold j_X9_readsOnce_17
    rw [m_needs1, ebnd, hd.2.2.2.2.2.2.1, show (nI w ||| ((1 : Int32) <<< (nI i &&& 31))) = nI (w ||| 2 ^ i) from o3, eLet, ← hMb, m_goOnA hal.a, a2, ebnd, m_fineA a3.a, ebnd, if_neg (show ¬ (1 : Int32) = 0 from by decide)]
  · refine FP.tr ?_ a7.fp
    subst hMb
    exact FP.set M _ (by omega)
def lo5 (i : Nat) : Nat := [1, 1, 1, 1, 0].getD i 0
def hi5 (i : Nat) : Nat := [50, 100, 99, 20, 99].getD i 0
theorem lohi : ∀ i : Fin 5, wLow (nI (i.val + 3)) = nI (lo5 i.val) ∧ wHigh (nI (i.val + 3)) = nI (hi5 i.val) ∧ lo5 i.val < 2 ^ 30 ∧ hi5 i.val < 2 ^ 30 := by decide +kernel
theorem m_65 {i : Nat} (hi : i < 5) : (if nI i = (5 : Int32) then bnd (f_X9_readsOrder n M) (fun (th_8 : OS) => some th_8) else (if nI i = (4 : Int32) then j_X9_readsOnce_65 n (nI i) M (0 : Int32) else j_X9_readsOnce_65 n (nI i) M (1 : Int32))) = bnd2 (f_X9_number n M (nI (lo5 i)) (nI (hi5 i))) (fun (th_5 : OS) (r_6 : Int32) => some (sA th_5 37 (upd (th_5.2.1 37) i r_6))) := by
  have e : ∀ v a : Int32, j_X9_readsOnce_97 n (nI i) M v a = bnd2 (f_X9_number n M v a) (fun (th_5 : OS) (r_6 : Int32) => some (sA th_5 37 (upd (th_5.2.1 37) i r_6))) := fun v a => by
    unfold j_X9_readsOnce_97
    rw [nI_clamp (by omega)]
    cases f_X9_number n M v a with
    | none => rfl
    | some x =>
      show gI 5 (nI i) _ = _
      rw [egN hi (by decide)]
      rfl
  have hi2 : i = 0 ∨ i = 1 ∨ i = 2 ∨ i = 3 ∨ i = 4 := by omega
  unfold j_X9_readsOnce_65
  rw [e, e, e, e, e, e, e, e]
  rcases hi2 with rfl | rfl | rfl | rfl | rfl <;> rfl
theorem c_set5 {i : Nat} (hi : i < 5) (v : Int32) : f_X5_set n rr (nI (i + 3)) v = some (sI rr (i + 2) v) := by
  have hi2 : i = 0 ∨ i = 1 ∨ i = 2 ∨ i = 3 ∨ i = 4 := by omega
  unfold f_X5_set
  rw [egN (by omega) (by decide), egN (by omega) (by decide), eLet]
  rcases hi2 with rfl | rfl | rfl | rfl | rfl <;> rfl
theorem Ud.set {i v : Nat} (h : Ud P NP E Bs F Pt Ap rr M) (hi : i < 5) (h1 : lo5 i ≤ v) (h2 : v ≤ hi5 i) : ∃ E' Bs' F' Pt' Ap', Ud P NP E' Bs' F' Pt' Ap' (sI rr (i + 2) (nI v)) (sA M 37 (upd (M.2.1 37) i (nI v))) := by
  have hi2 : i = 0 ∨ i = 1 ∨ i = 2 ∨ i = 3 ∨ i = 4 := by omega
  obtain ⟨⟨u0, u1, u2, u3, u4, u5, u6⟩, ⟨v0, v1, v2, v3, v4, v5, v6⟩, p1, p2, p3, p4, p5, p6, p7, p8, p9, p10, p11, p12⟩ := h
  rcases hi2 with rfl | rfl | rfl | rfl | rfl
  · have h1 : 1 ≤ v := h1
    have h2 : v ≤ 50 := h2
    exact ⟨v, Bs, F, Pt, Ap, ⟨u0, u1, rfl, u3, u4, u5, u6⟩, ⟨v0, v1, rfl, v3, v4, v5, v6⟩, p1, p2, p3, h1, h2, p6, p7, p8, p9, p10, p11, p12⟩
  · have h1 : 1 ≤ v := h1
    have h2 : v ≤ 100 := h2
    exact ⟨E, v, F, Pt, Ap, ⟨u0, u1, u2, rfl, u4, u5, u6⟩, ⟨v0, v1, v2, rfl, v4, v5, v6⟩, p1, p2, p3, p4, p5, h1, h2, p8, p9, p10, p11, p12⟩
  · have h1 : 1 ≤ v := h1
    have h2 : v ≤ 99 := h2
    exact ⟨E, Bs, v, Pt, Ap, ⟨u0, u1, u2, u3, rfl, u5, u6⟩, ⟨v0, v1, v2, v3, rfl, v5, v6⟩, p1, p2, p3, p4, p5, p6, p7, h1, h2, p10, p11, p12⟩
  · have h1 : 1 ≤ v := h1
    have h2 : v ≤ 20 := h2
    exact ⟨E, Bs, F, v, Ap, ⟨u0, u1, u2, u3, u4, rfl, u6⟩, ⟨v0, v1, v2, v3, v4, rfl, v6⟩, p1, p2, p3, p4, p5, p6, p7, p8, p9, h1, h2, p12⟩
  · have h2 : v ≤ 99 := h2
    exact ⟨E, Bs, F, Pt, v, ⟨u0, u1, u2, u3, u4, u5, rfl⟩, ⟨v0, v1, v2, v3, v4, v5, rfl⟩, p1, p2, p3, p4, p5, p6, p7, p8, p9, p10, p11, h2⟩
/-- a setting -/
theorem stSet {s e i : Nat} (h : AL B len inp s e rd M) (hd : Dx P NP E Bs F Pt Ap LC CC w rd rr fo M) (hi : i < 5) (h8 : rd.1 8 = nI (i + 3)) (hk : kd B len s ≠ 0) (hn : 700 < n) : (∃ rd1 rr1 M1 s1 e1, f_X4_readSetting n rd 600 inp rr = some (rd1, rr1, 1) ∧ f_X9_readsOnce n M (nI i) = some M1 ∧ AL B len inp s1 e1 rd1 M1 ∧ DR rd1 rr1 fo M1 ∧ s < s1 ∧ FP M M1) ∨ (∃ rd1 rr1 M1, f_X4_readSetting n rd 600 inp rr = some (rd1, rr1, 0) ∧ f_X9_readsOnce n M (nI i) = some M1 ∧ DD rd1 M1 ∧ FP M M1) := by
  unfold f_X4_readSetting
  cases hb : fst1 w i with
  | false =>
    obtain ⟨rd1, M1, a1, a2, a3, a4, a5⟩ := onceTwice (n := n) h hd (by omega) h8 hb
    refine Or.inr ⟨rd1, rr, M1, ?_, a3, a4, a5⟩
    rw [a1, ebnd2, if_pos rfl, a2, ebnd2, egZ0]
  | true =>
    obtain ⟨rd1, rd2, M2, s2, e2, b0, b1, b2, b3, b4, b5, b6, b7⟩ := onceFirst (n := n) h hd (by omega) h8 hb hk hn
    obtain ⟨l1, l2, l3, l4⟩ := lohi ⟨i, hi⟩
    have l1 : wLow (nI (i + 3)) = nI (lo5 i) := l1
    have l2 : wHigh (nI (i + 3)) = nI (hi5 i) := l2
    rw [b1, ebnd2, if_neg (show ¬ (1 : Int32) = 0 from by decide), b2, ebnd, b0, egN (show i + 3 < 14 by omega) (by decide), egN (show i + 3 < 14 by omega) (by decide), l1, l2, b3, m_65 hi]
    rcases rdNum (a := lo5 i) (b := hi5 i) b4 l3 l4 hn with ⟨rd3, M3, s3, e3, v, c1, c2, c3, c4, c5, c6, c7, c8, c9, c10⟩ | ⟨rd3, M3, r, c1, c2, c3, c4, c5⟩
    · have hd3 := b5.fn (c8 11 (by omega)) c10
      obtain ⟨w1, w2, w3, w4, w5, w6, w7, w8⟩ := hd3
      obtain ⟨E', Bs', F', Pt', Ap', w0⟩ := w1.set hi c1 c2
      refine Or.inl ⟨rd3, sI rr (i + 2) (nI v), sA M3 37 (upd (M3.2.1 37) i (nI v)), s3, e3, ?_, ?_, ?_, ⟨P, NP, E', Bs', F', Pt', Ap', LC, CC, _, w0, w2, w3, w4, w5, w6, w7, w8⟩, by omega, b7.tr (c10.fp.tr (FP.arr M3 _ (Or.inr rfl)))⟩
      · rw [c3, ebnd2, if_neg (show ¬ (1 : Int32) = 0 from by decide), c4, c_set5 hi, ebnd]
      · rw [c5, ebnd2]
      · obtain ⟨z1, z2, z3, z4, z5, z6, z7, z8, z9⟩ := c6
        exact ⟨z1, z2, z3, z4, z5, z6, z7, z8, z9⟩
    · refine Or.inr ⟨rd3, rr, sA M3 37 (upd (M3.2.1 37) i r), ?_, ?_, c3, b7.tr (c4.tr (FP.arr M3 _ (Or.inr rfl)))⟩
      · rw [c1, ebnd2, if_pos rfl]
      · rw [c2, ebnd2]
/-- the order -/
theorem stOrder {s e : Nat} (h : AL B len inp s e rd M) (hd : Dx P NP E Bs F Pt Ap LC CC w rd rr fo M) (h8 : rd.1 8 = nI 8) (hk : kd B len s ≠ 0) (hn : 700 < n) : (∃ rd1 fo1 M1 s1 e1, f_X4_readOrder n rd 600 inp fo = some (rd1, fo1, 1) ∧ f_X9_readsOnce n M (nI 5) = some M1 ∧ AL B len inp s1 e1 rd1 M1 ∧ DR rd1 rr fo1 M1 ∧ s < s1 ∧ FP M M1) ∨ (∃ rd1 fo1 M1, f_X4_readOrder n rd 600 inp fo = some (rd1, fo1, 0) ∧ f_X9_readsOnce n M (nI 5) = some M1 ∧ DD rd1 M1 ∧ FP M M1) := by
  unfold f_X4_readOrder
  cases hb : fst1 w 5 with
  | false =>
    obtain ⟨rd1, M1, a1, a2, a3, a4, a5⟩ := onceTwice (n := n) (i := 5) h hd (by omega) h8 hb
    refine Or.inr ⟨rd1, fo, M1, ?_, a3, a4, a5⟩
    rw [a1, ebnd2, if_pos rfl, a2, ebnd2, egZ0]
  | true =>
    obtain ⟨rd1, rd2, M2, s2, e2, b0, b1, b2, b3, b4, b5, b6, b7⟩ := onceFirst (n := n) (i := 5) h hd (by omega) h8 hb hk hn
    have w14 := wd_lt B len s2 e2
    rw [b1, ebnd2, if_neg (show ¬ (1 : Int32) = 0 from by decide), b2, ebnd, b4.word, egN w14 (by decide), egN w14 (by decide), eLet, b3, if_pos (show nI 5 = (5 : Int32) from rfl)]
    by_cases q : 9 ≤ wd B len s2 e2 ∧ wd B len s2 e2 ≤ 11
    · obtain ⟨o, ho⟩ : ∃ o, wd B len s2 e2 = o + 9 := ⟨wd B len s2 e2 - 9, by omega⟩
      have ho2 : o ≤ 2 := by omega
      obtain ⟨m27, m28⟩ := b4.mw (by omega)
      obtain ⟨Mb, hMb⟩ : ∃ Mb, Mb = sA M2 10 (upd (M2.2.1 10) 1 (nI o)) := ⟨_, rfl⟩
      have hal : AL B len inp s2 e2 rd2 Mb := by
        subst hMb
        obtain ⟨t1, t2, t3, t4, t5, t6, t7, t8, t9⟩ := b4
        exact ⟨t1, t2, t3, t4, t5, t6, t7, t8, t9⟩
      obtain ⟨rd3, M3, s3, e3, c1, c2, c3, c4, c5, c6, c7⟩ := stepBoth hal hn
      have hs2 := b4.2.1.1
      have hdb : Dx P NP E Bs F Pt Ap LC CC (w ||| 2 ^ 5) rd2 rr (sI fo 1 (nI o)) Mb := by
        obtain ⟨w1, w2, w3, w4, w5, w6, w7, w8⟩ := b5
        subst hMb
        refine ⟨w1, w2, w3.order ho2, w4, w5, w6, w7, ?_⟩
        show M2.1 36 = nI (pc (upd (M2.2.1 10) 1 (nI o)) P (-1))
        rw [w8, pc_sm (upd_sm (by omega)) w1.2.2.2.1]
      refine Or.inl ⟨rd3, sI fo 1 (nI o), M3, s3, e3, ?_, ?_, c3, (hdb.fn (c5 11 (by omega)) c7).dr, by omega, b7.tr (FP.tr ?_ c7.fp)⟩
      · have ho3 : o = 0 ∨ o = 1 ∨ o = 2 := by omega
        rw [ho]
        rcases ho3 with rfl | rfl | rfl
        · rw [show wMap (nI (0 + 9)) = 10 from by decide +kernel, if_neg (show ¬ ((10 : Int32).toInt < 10 ∨ 12 < (10 : Int32).toInt) from by decide), if_pos (show (10 : Int32) = 10 from rfl), eLet, c1, ebnd]
          rfl
        · rw [show wMap (nI (1 + 9)) = 11 from by decide +kernel, if_neg (show ¬ ((11 : Int32).toInt < 10 ∨ 12 < (11 : Int32).toInt) from by decide), if_neg (show ¬ (11 : Int32) = 10 from by decide), if_pos (show (11 : Int32) = 11 from rfl), eLet, c1, ebnd]
          rfl
        · rw [show wMap (nI (2 + 9)) = 12 from by decide +kernel, if_neg (show ¬ ((12 : Int32).toInt < 10 ∨ 12 < (12 : Int32).toInt) from by decide), if_neg (show ¬ (12 : Int32) = 10 from by decide), if_neg (show ¬ (12 : Int32) = 11 from by decide), eLet, c1, ebnd]
          rfl
      · have e1 : f_X9_readsOrder n M2 = j_X9_readsOrder_31 n M2 1 := by
          unfold f_X9_readsOrder
          rw [m27, if_pos (show nI 1 = (1 : Int32) from rfl), m28, ho, show nI (o + 9) - 1 = nI (o + 8) from nI_pred (o + 8), show (8 : Int64) = (nI 8).toInt64 from by decide, show (10 : Int64) = (nI 10).toInt64 from by decide, in32, decide_eq_true (nI_le (a := 8) (b := o + 8) (by omega) (by omega)), decide_eq_true (nI_le (a := o + 8) (b := 10) (by omega) (by omega)), ebnd]
          rfl
        have e2 : M2.1 28 - 8 = nI o := by
          rw [m28, ho, show nI (o + 9) - 1 = nI (o + 8) from nI_pred (o + 8), show (8 : Int32) = nI 8 from rfl, pk_sub (by omega), show o + 8 - 8 = o by omega]
        rw [e1]
        unfold j_X9_readsOrder_31
        rw [m_needs1, ebnd, m_fineA b4.a, ebnd, if_neg (show ¬ (1 : Int32) = 0 from by decide), gq1, cl1, e2, eLet, ← hMb, m_goOnA hal.a, c2, ebnd, ebnd]
      · subst hMb
        exact FP.arr M2 _ (Or.inl rfl)
    · obtain ⟨d1, d2, d3⟩ := b4.fail (v := 1) (by decide)
      refine Or.inr ⟨_, fo, _, ?_, ?_, d1, b7.tr d2⟩
      · have hm : ∀ k : Fin 14, ¬ (9 ≤ k.val ∧ k.val ≤ 11) → (wMap (nI k.val)).toInt < 10 ∨ 12 < (wMap (nI k.val)).toInt := by decide +kernel
        have hm1 : (wMap (nI (wd B len s2 e2))).toInt < 10 ∨ 12 < (wMap (nI (wd B len s2 e2))).toInt := hm ⟨wd B len s2 e2, w14⟩ q
        rw [if_pos hm1, c_fail, ebnd2, egZ0]
      · have e1 : f_X9_readsOrder n M2 = j_X9_readsOrder_31 n M2 0 := by
          unfold f_X9_readsOrder
          by_cases k4 : kd B len s2 = 4
          · by_cases w0 : wd B len s2 e2 = 0
            · have m28 : M2.1 28 = nI 0 - 1 := by
                have e9 : wdx B s2 e2 = 0 := (if_pos k4 : wd B len s2 e2 = wdx B s2 e2).symm.trans w0
                rw [(b4.2.2.2.2.2.1.2.2.2.1 k4).1, e9]
              rw [b4.2.2.2.2.2.1.2.2.1, mk1.mpr k4, if_pos (show nI 1 = (1 : Int32) from rfl), m28, show (8 : Int64) = (nI 8).toInt64 from by decide, show (10 : Int64) = (nI 10).toInt64 from by decide, in32, ebnd, show (decide (nI 8 ≤ nI 0 - 1) && decide (nI 0 - 1 ≤ nI 10)) = false from by decide]
              rfl
            · obtain ⟨m27, m28⟩ := b4.mw w0
              obtain ⟨j, hj⟩ : ∃ j, wd B len s2 e2 = j + 1 := ⟨wd B len s2 e2 - 1, by omega⟩
              rw [m27, if_pos (show nI 1 = (1 : Int32) from rfl), m28, hj, nI_pred, show (8 : Int64) = (nI 8).toInt64 from by decide, show (10 : Int64) = (nI 10).toInt64 from by decide, in32, ebnd]
              have : (decide (nI 8 ≤ nI j) && decide (nI j ≤ nI 10)) = false := by
                rw [← Bool.not_eq_true, Bool.and_eq_true, decide_eq_true_eq, decide_eq_true_eq, nI_leI (by omega) (by omega), nI_leI (by omega) (by omega)]
                omega
              rw [this]
              rfl
          · rw [if_neg (b4.mn k4)]
        rw [e1]
        unfold j_X9_readsOrder_31
        rw [m_needs0 b4.a, ebnd, m_fineD d1.2.2, ebnd, if_pos rfl, m_goOnD d1.2.2, ebnd, ebnd]
/-- one statement, with its semicolon -/
theorem stmt {s e : Nat} (h : AL B len inp s e rd M) (hd : Dx P NP E Bs F Pt Ap LC CC w rd rr fo M) (hk : kd B len s ≠ 0) (hn : 700 < n) : (∃ rd1 rr1 fo1 rd2 M2 s2 e2, f_X4_readStatement n rd 600 inp rr fo = some (rd1, rr1, fo1, 1) ∧ f_X4_readSemicolon n rd1 600 inp = some (rd2, 1) ∧ f_X9_statement n M = some M2 ∧ AL B len inp s2 e2 rd2 M2 ∧ DR rd2 rr1 fo1 M2 ∧ s < s2 ∧ FP M M2) ∨ (∃ rd1 rr1 fo1 rd2 M2, ((f_X4_readStatement n rd 600 inp rr fo = some (rd1, rr1, fo1, 0) ∧ rd2 = rd1) ∨ (f_X4_readStatement n rd 600 inp rr fo = some (rd1, rr1, fo1, 1) ∧ f_X4_readSemicolon n rd1 600 inp = some (rd2, 0))) ∧ f_X9_statement n M = some M2 ∧ DD rd2 M2 ∧ FP M M2) := by
  have w14 := wd_lt B len s e
  -- what stands before the semicolon was read
  have fin : ∀ {rd1 rr1 fo1 M1 : OS} {s1 e1 : Nat}, f_X4_readStatement n rd 600 inp rr fo = some (rd1, rr1, fo1, 1) → f_X9_statement n M = j_X9_statement_91 n M1 → AL B len inp s1 e1 rd1 M1 → DR rd1 rr1 fo1 M1 → s < s1 → FP M M1 → ((∃ rd1 rr1 fo1 rd2 M2 s2 e2, f_X4_readStatement n rd 600 inp rr fo = some (rd1, rr1, fo1, 1) ∧ f_X4_readSemicolon n rd1 600 inp = some (rd2, 1) ∧ f_X9_statement n M = some M2 ∧ AL B len inp s2 e2 rd2 M2 ∧ DR rd2 rr1 fo1 M2 ∧ s < s2 ∧ FP M M2) ∨ (∃ rd1 rr1 fo1 rd2 M2, ((f_X4_readStatement n rd 600 inp rr fo = some (rd1, rr1, fo1, 0) ∧ rd2 = rd1) ∨ (f_X4_readStatement n rd 600 inp rr fo = some (rd1, rr1, fo1, 1) ∧ f_X4_readSemicolon n rd1 600 inp = some (rd2, 0))) ∧ f_X9_statement n M = some M2 ∧ DD rd2 M2 ∧ FP M M2)) := fun {rd1 rr1 fo1 M1 s1 e1} g1 g2 g3 g4 g5 g6 => by
    obtain ⟨P', NP', E', Bs', F', Pt', Ap', LC', CC', w', g4⟩ := g4
    rcases rdSemi g3 hn with ⟨rd2, M2, s2, e2, q1, q2, q3, q4, q5, q6, q7⟩ | ⟨rd2, M2, q1, q2, q3, q4⟩
    · exact Or.inl ⟨rd1, rr1, fo1, rd2, M2, s2, e2, g1, q1, g2.trans q2, q3, (g4.fn (q5 11 (by omega)) q7).dr, by omega, g6.tr q7.fp⟩
    · exact Or.inr ⟨rd1, rr1, fo1, rd2, M2, Or.inr ⟨g1, q1⟩, g2.trans q2, q3, g6.tr q4⟩
  have bad : ∀ {rd1 rr1 fo1 M1 : OS}, f_X4_readStatement n rd 600 inp rr fo = some (rd1, rr1, fo1, 0) → f_X9_statement n M = j_X9_statement_91 n M1 → DD rd1 M1 → FP M M1 → ((∃ rd1 rr1 fo1 rd2 M2 s2 e2, f_X4_readStatement n rd 600 inp rr fo = some (rd1, rr1, fo1, 1) ∧ f_X4_readSemicolon n rd1 600 inp = some (rd2, 1) ∧ f_X9_statement n M = some M2 ∧ AL B len inp s2 e2 rd2 M2 ∧ DR rd2 rr1 fo1 M2 ∧ s < s2 ∧ FP M M2) ∨ (∃ rd1 rr1 fo1 rd2 M2, ((f_X4_readStatement n rd 600 inp rr fo = some (rd1, rr1, fo1, 0) ∧ rd2 = rd1) ∨ (f_X4_readStatement n rd 600 inp rr fo = some (rd1, rr1, fo1, 1) ∧ f_X4_readSemicolon n rd1 600 inp = some (rd2, 0))) ∧ f_X9_statement n M = some M2 ∧ DD rd2 M2 ∧ FP M M2)) := fun {rd1 rr1 fo1 M1} g1 g2 g3 g4 => Or.inr ⟨rd1, rr1, fo1, rd1, M1, Or.inl ⟨g1, rfl⟩, g2.trans (semiD g3.2.2), g3, g4⟩
  have hm : f_X9_statement n M = if wd B len s e = 2 then bnd (f_X9_readsProcess n M) (fun (th_11 : OS) => j_X9_statement_91 n th_11) else if wd B len s e = 12 then bnd (f_X9_readsLoan n M) (fun (th_10 : OS) => j_X9_statement_91 n th_10) else if wd B len s e = 13 then bnd (f_X9_readsAsk n M) (fun (th_9 : OS) => j_X9_statement_91 n th_9) else if 3 ≤ wd B len s e ∧ wd B len s e ≤ 8 then bnd (f_X9_readsOnce n M (nI (wd B len s e - 3))) (fun (th_8 : OS) => j_X9_statement_91 n th_8) else j_X9_statement_85 n M := by
    unfold f_X9_statement
    rw [m_isWord h (v := 1) (k := 1) rfl (by decide), ebnd, ifz]
    by_cases q2 : wd B len s e = 2
    · rw [decide_eq_true q2, if_pos rfl, if_pos q2]
    · rw [decide_eq_false q2, if_neg (by decide), if_neg q2, m_isWord h (v := 11) (k := 11) rfl (by decide), ebnd, ifz]
      by_cases q12 : wd B len s e = 12
      · rw [decide_eq_true q12, if_pos rfl, if_pos q12]
      · rw [decide_eq_false q12, if_neg (by decide), if_neg q12, m_isWord h (v := 12) (k := 12) rfl (by decide), ebnd, ifz]
        by_cases q13 : wd B len s e = 13
        · rw [decide_eq_true q13, if_pos rfl, if_pos q13]
        · rw [decide_eq_false q13, if_neg (by decide), if_neg q13]
          by_cases k4 : kd B len s = 4
          · rw [h.2.2.2.2.2.1.2.2.1, mk1.mpr k4, if_pos (show nI 1 = (1 : Int32) from rfl)]
            have e9 : wd B len s e = wdx B s e := if_pos k4
            rw [(h.2.2.2.2.2.1.2.2.2.1 k4).1, ← e9]
            by_cases w0 : wd B len s e = 0
            · rw [w0, show (2 : Int64) = (nI 2).toInt64 from by decide, show (7 : Int64) = (nI 7).toInt64 from by decide, in32, ebnd, show (decide (nI 2 ≤ nI 0 - 1) && decide (nI 0 - 1 ≤ nI 7)) = false from by decide, ifz, if_neg (by decide), if_neg (by omega)]
            · obtain ⟨j, hj⟩ : ∃ j, wd B len s e = j + 1 := ⟨wd B len s e - 1, by omega⟩
              rw [hj, nI_pred, show (2 : Int64) = (nI 2).toInt64 from by decide, show (7 : Int64) = (nI 7).toInt64 from by decide, in32, ebnd, ifz]
              by_cases q : 2 ≤ j ∧ j ≤ 7
              · rw [decide_eq_true (nI_le (a := 2) (b := j) q.1 (by omega)), decide_eq_true (nI_le (a := j) (b := 7) q.2 (by decide)), if_pos (show (true && true) = true from rfl), if_pos (show 3 ≤ j + 1 ∧ j + 1 ≤ 8 by omega), show (2 : Int32) = nI 2 from rfl, pk_sub q.1, show j + 1 - 3 = j - 2 by omega]
              · have : (decide (nI 2 ≤ nI j) && decide (nI j ≤ nI 7)) = false := by
                  rw [← Bool.not_eq_true, Bool.and_eq_true, decide_eq_true_eq, decide_eq_true_eq, nI_leI (by omega) (by omega), nI_leI (by omega) (by omega)]
                  exact q
                rw [this, if_neg (by decide), if_neg (show ¬ (3 ≤ j + 1 ∧ j + 1 ≤ 8) by omega)]
          · have e9 : wd B len s e = 0 := if_neg k4
            rw [if_neg (h.mn k4), e9, if_neg (by omega)]
  have hc : ∀ {x : Int32}, wMap (nI (wd B len s e)) = x → f_X4_readStatement n rd 600 inp rr fo = (if (x).toInt < 1 ∨ 9 < (x).toInt then (bnd2 (f_X4_fail n rd (1 : Int32)) (fun (th_2 : OS) (r_3 : Int32) => gZ r_3 (some (th_2, rr, fo, r_3)))) else if (x).toInt ≤ 5 then bnd3 (f_X4_readSetting n rd 600 inp rr) (fun (th_4 : OS) (ru_5 : OS) (r_6 : Int32) => gZ r_6 (some (th_4, ru_5, fo, r_6))) else if x = 6 then bnd3 (f_X4_readNewProcess n rd 600 inp rr) (fun (th_19 : OS) (ru_20 : OS) (r_21 : Int32) => gZ r_21 (some (th_19, ru_20, fo, r_21))) else if x = 7 then bnd3 (f_X4_readLoan n rd 600 inp rr fo) (fun (th_22 : OS) (co_23 : OS) (r_24 : Int32) => gZ r_24 (some (th_22, rr, co_23, r_24))) else if x = 8 then bnd3 (f_X4_readClaim n rd 600 inp rr fo) (fun (th_25 : OS) (co_26 : OS) (r_27 : Int32) => gZ r_27 (some (th_25, rr, co_26, r_27))) else bnd3 (f_X4_readOrder n rd 600 inp fo) (fun (th_28 : OS) (co_29 : OS) (r_30 : Int32) => gZ r_30 (some (th_28, rr, co_29, r_30)))) := fun {x} hx => by
    unfold f_X4_readStatement
    rw [h.word, egN w14 (by decide), egN w14 (by decide), eLet, hx]
    by_cases q : (x).toInt < 1 ∨ 9 < (x).toInt
    · rw [if_pos q, if_pos q]
    · rw [if_neg q, if_neg q]
      have hx9 : x.toInt = 1 ∨ x.toInt = 2 ∨ x.toInt = 3 ∨ x.toInt = 4 ∨ x.toInt = 5 ∨ x.toInt = 6 ∨ x.toInt = 7 ∨ x.toInt = 8 ∨ x.toInt = 9 := by omega
      have e : ∀ {y : Int32}, x.toInt = y.toInt → x = y := fun z => Int32.toInt_inj.mp z
      rcases hx9 with z | z | z | z | z | z | z | z | z
      · have := e (y := 1) z; subst this; rfl
      · have := e (y := 2) z; subst this; rfl
      · have := e (y := 3) z; subst this; rfl
      · have := e (y := 4) z; subst this; rfl
      · have := e (y := 5) z; subst this; rfl
      · have := e (y := 6) z; subst this; rfl
      · have := e (y := 7) z; subst this; rfl
      · have := e (y := 8) z; subst this; rfl
      · have := e (y := 9) z; subst this; rfl
  have setting : ∀ i, i < 5 → wd B len s e = i + 3 → ((∃ rd1 rr1 fo1 rd2 M2 s2 e2, f_X4_readStatement n rd 600 inp rr fo = some (rd1, rr1, fo1, 1) ∧ f_X4_readSemicolon n rd1 600 inp = some (rd2, 1) ∧ f_X9_statement n M = some M2 ∧ AL B len inp s2 e2 rd2 M2 ∧ DR rd2 rr1 fo1 M2 ∧ s < s2 ∧ FP M M2) ∨ (∃ rd1 rr1 fo1 rd2 M2, ((f_X4_readStatement n rd 600 inp rr fo = some (rd1, rr1, fo1, 0) ∧ rd2 = rd1) ∨ (f_X4_readStatement n rd 600 inp rr fo = some (rd1, rr1, fo1, 1) ∧ f_X4_readSemicolon n rd1 600 inp = some (rd2, 0))) ∧ f_X9_statement n M = some M2 ∧ DD rd2 M2 ∧ FP M M2)) := fun i hi hwi => by
    have hmap : ∀ i : Fin 5, ¬ ((wMap (nI (i.val + 3))).toInt < 1 ∨ 9 < (wMap (nI (i.val + 3))).toInt) ∧ (wMap (nI (i.val + 3))).toInt ≤ 5 := by decide +kernel
    have hc1 := hc rfl
    have hm1 : ¬ ((wMap (nI (i + 3))).toInt < 1 ∨ 9 < (wMap (nI (i + 3))).toInt) := (hmap ⟨i, hi⟩).1
    have hm2 : (wMap (nI (i + 3))).toInt ≤ 5 := (hmap ⟨i, hi⟩).2
    rw [hwi, if_neg hm1, if_pos hm2] at hc1
    rw [if_neg (by omega), if_neg (by omega), if_neg (by omega), if_pos (by omega), show wd B len s e - 3 = i by omega] at hm
    rcases stSet h hd hi (h.word.trans (congrArg nI hwi)) hk hn with ⟨rd1, rr1, M1, s1, e1, q1, q2, q3, q4, q5, q6⟩ | ⟨rd1, rr1, M1, q1, q2, q3, q4⟩
    · rw [q1, ebnd3, egZ1] at hc1
      rw [q2, ebnd] at hm
      exact fin hc1 hm q3 q4 q5 q6
    · rw [q1, ebnd3, egZ0] at hc1
      rw [q2, ebnd] at hm
      exact bad hc1 hm q3 q4
  by_cases c2 : wd B len s e = 2
  · have hc1 := hc (x := 6) (by rw [c2]; decide +kernel)
    rw [if_neg (show ¬ ((6 : Int32).toInt < 1 ∨ 9 < (6 : Int32).toInt) from by decide), if_neg (show ¬ (6 : Int32).toInt ≤ 5 from by decide), if_pos rfl] at hc1
    rw [if_pos c2] at hm
    rcases stProc h hd hk hn with ⟨rd1, rr1, M1, s1, e1, q1, q2, q3, q4, q5, q6⟩ | ⟨rd1, rr1, M1, q1, q2, q3, q4⟩
    · rw [q1, ebnd3, egZ1] at hc1
      rw [q2, ebnd] at hm
      exact fin hc1 hm q3 q4 q5 q6
    · rw [q1, ebnd3, egZ0] at hc1
      rw [q2, ebnd] at hm
      exact bad hc1 hm q3 q4
  by_cases c12 : wd B len s e = 12
  · have hc1 := hc (x := 7) (by rw [c12]; decide +kernel)
    rw [if_neg (show ¬ ((7 : Int32).toInt < 1 ∨ 9 < (7 : Int32).toInt) from by decide), if_neg (show ¬ (7 : Int32).toInt ≤ 5 from by decide), if_neg (show ¬ (7 : Int32) = 6 from by decide), if_pos rfl] at hc1
    rw [if_neg c2, if_pos c12] at hm
    rcases stLoan h hd hk hn with ⟨rd1, fo1, M1, s1, e1, q1, q2, q3, q4, q5, q6⟩ | ⟨rd1, fo1, M1, q1, q2, q3, q4⟩
    · rw [q1, ebnd3, egZ1] at hc1
      rw [q2, ebnd] at hm
      exact fin hc1 hm q3 q4 q5 q6
    · rw [q1, ebnd3, egZ0] at hc1
      rw [q2, ebnd] at hm
      exact bad hc1 hm q3 q4
  by_cases c13 : wd B len s e = 13
  · have hc1 := hc (x := 8) (by rw [c13]; decide +kernel)
    rw [if_neg (show ¬ ((8 : Int32).toInt < 1 ∨ 9 < (8 : Int32).toInt) from by decide), if_neg (show ¬ (8 : Int32).toInt ≤ 5 from by decide), if_neg (show ¬ (8 : Int32) = 6 from by decide), if_neg (show ¬ (8 : Int32) = 7 from by decide), if_pos rfl] at hc1
    rw [if_neg c2, if_neg c12, if_pos c13] at hm
    rcases stAsk h hd hk hn with ⟨rd1, fo1, M1, s1, e1, q1, q2, q3, q4, q5, q6⟩ | ⟨rd1, fo1, M1, q1, q2, q3, q4⟩
    · rw [q1, ebnd3, egZ1] at hc1
      rw [q2, ebnd] at hm
      exact fin hc1 hm q3 q4 q5 q6
    · rw [q1, ebnd3, egZ0] at hc1
      rw [q2, ebnd] at hm
      exact bad hc1 hm q3 q4
  by_cases c8 : wd B len s e = 8
  · have hc1 := hc (x := 9) (by rw [c8]; decide +kernel)
    rw [if_neg (show ¬ ((9 : Int32).toInt < 1 ∨ 9 < (9 : Int32).toInt) from by decide), if_neg (show ¬ (9 : Int32).toInt ≤ 5 from by decide), if_neg (show ¬ (9 : Int32) = 6 from by decide), if_neg (show ¬ (9 : Int32) = 7 from by decide), if_neg (show ¬ (9 : Int32) = 8 from by decide)] at hc1
    rw [if_neg c2, if_neg c12, if_neg c13, if_pos (by omega), show wd B len s e - 3 = 5 by omega] at hm
    rcases stOrder h hd (h.word.trans (congrArg nI c8)) hk hn with ⟨rd1, fo1, M1, s1, e1, q1, q2, q3, q4, q5, q6⟩ | ⟨rd1, fo1, M1, q1, q2, q3, q4⟩
    · rw [q1, ebnd3, egZ1] at hc1
      rw [q2, ebnd] at hm
      exact fin hc1 hm q3 q4 q5 q6
    · rw [q1, ebnd3, egZ0] at hc1
      rw [q2, ebnd] at hm
      exact bad hc1 hm q3 q4
  by_cases c37 : 3 ≤ wd B len s e ∧ wd B len s e ≤ 7
  · exact setting (wd B len s e - 3) (by omega) (by omega)
  · have hc1 := hc rfl
    have hmap : ∀ i : Fin 14, ¬ (i.val = 2) → ¬ (i.val = 12) → ¬ (i.val = 13) → ¬ (3 ≤ i.val ∧ i.val ≤ 8) → ((wMap (nI i.val)).toInt < 1 ∨ 9 < (wMap (nI i.val)).toInt) := by decide +kernel
    have hm1 : (wMap (nI (wd B len s e))).toInt < 1 ∨ 9 < (wMap (nI (wd B len s e))).toInt := hmap ⟨wd B len s e, w14⟩ c2 c12 c13 (fun z => by have z : 3 ≤ wd B len s e ∧ wd B len s e ≤ 8 := z; omega)
    rw [if_pos hm1, c_fail, ebnd2, egZ0] at hc1
    rw [if_neg c2, if_neg c12, if_neg c13, if_neg (by omega)] at hm
    obtain ⟨d1, d2, d3⟩ := h.fail (v := 1) (by decide)
    unfold j_X9_statement_85 at hm
    rw [m_needs0 h.a, ebnd] at hm
    exact bad hc1 hm d1 d2
end ONCE
