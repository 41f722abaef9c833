section CALLS
variable {n D L i : Nat} {xs : Nat → Int32} {sv : Value} {x inp ou ru no fo rd rr M : OS} {pa : PS} {p3 : Nat → Int64} {so : Option OS}
theorem law_16 (h : RX D x inp ou ru no rd pa M so) (hi : i + 5 < L) (hL : L ≤ 3072) (hn : 13000 < n) (hD : 2100 ≤ D) (hD2 : D ≤ 100000) : ∃ st, f_law_16 n L xs (nI i) sv x inp ou ru no fo rd rr pa M p3 so = some st ∧ RLw (D + 99) st := by
  obtain ⟨P, NP, E, Bs, F, Pt, Ap, T, LC, CC, FC, h⟩ := h
  have h : RXx P NP E Bs F Pt Ap T LC CC FC D x inp ou ru no rd pa M so := h
  obtain ⟨p, k, M', b, o1, o2, he, hk, hp⟩ := lk_evidence (n := n) (sv := sv) (x := x) (p3 := p3) h.1 h.2.2.1 (by omega) (xs (i + 1))
  refine ⟨(x, inp, ou, ru, no, fo, rd, rr, pa, M', p, so), ?_, (h.rx.eqM he (Cpy.rf no)).mono (by omega)⟩
  unfold f_law_16
  rw [ga1 hi hL, o1, ebnd2, ga1 hi hL, o2, ebnd2, thr, ebnd, if_pos hk]
  by_cases q : k = 0
  · rw [if_pos q, go0, hp q, if_pos ((cmp0 _ _).mpr rfl)]
  · rw [if_neg q]
theorem law_17 (h : RX D x inp ou ru no rd pa M so) (hi : i + 5 < L) (hL : L ≤ 3072) (hn : 13000 < n) (hD : 2100 ≤ D) (hD2 : D ≤ 100000) : ∃ st, f_law_17 n L xs (nI i) sv x inp ou ru no fo rd rr pa M p3 so = some st ∧ RLw (D + 99) st := by
  obtain ⟨P, NP, E, Bs, F, Pt, Ap, T, LC, CC, FC, h⟩ := h
  have h : RXx P NP E Bs F Pt Ap T LC CC FC D x inp ou ru no rd pa M so := h
  obtain ⟨p, k, M', b, o1, o2, he, hk, hp⟩ := lk_wasStalled (n := n) (sv := sv) (x := x) (p3 := p3) h.1 h.2.2.1  (xs (i + 1)) (xs (i + 2))
  refine ⟨(x, inp, ou, ru, no, fo, rd, rr, pa, M', p, so), ?_, (h.rx.eqM he (Cpy.rf no)).mono (by omega)⟩
  unfold f_law_17
  rw [ga1 hi hL, ga2 hi hL, o1, ebnd2, ga1 hi hL, ga2 hi hL, o2, ebnd2, thr, ebnd, if_pos hk]
  by_cases q : k = 0
  · rw [if_pos q, go0, hp q]
    cases b with
    | false => rw [if_pos (show bI false = 0 from rfl), if_pos ((cmp0 _ _).mpr (show (bI false).toInt64 = 0 from by decide))]
    | true => rw [if_neg (show ¬ bI true = 0 from by decide), if_pos ((cmp0 _ _).mpr (show (bI true).toInt64 = 1 from by decide))]
  · rw [if_neg q]
theorem law_18 (h : RX D x inp ou ru no rd pa M so) (hi : i + 5 < L) (hL : L ≤ 3072) (hn : 13000 < n) (hD : 2100 ≤ D) (hD2 : D ≤ 100000) : ∃ st, f_law_18 n L xs (nI i) sv x inp ou ru no fo rd rr pa M p3 so = some st ∧ RLw (D + 99) st := by
  obtain ⟨P, NP, E, Bs, F, Pt, Ap, T, LC, CC, FC, h⟩ := h
  have h : RXx P NP E Bs F Pt Ap T LC CC FC D x inp ou ru no rd pa M so := h
  obtain ⟨r, M', o1, o2, he⟩ := lq_nextHearing (n := n) (sv := sv) (x := x) h.1 h.2.2.1  
  refine ⟨(x, inp, ou, ru, no, fo, rd, rr, pa, M', p3, so), ?_, (h.rx.eqM he (Cpy.rf no)).mono (by omega)⟩
  unfold f_law_18
  rw [o1, ebnd, o2, ebnd2, if_pos rfl]
theorem law_19 (h : RX D x inp ou ru no rd pa M so) (hi : i + 5 < L) (hL : L ≤ 3072) (hn : 13000 < n) (hD : 2100 ≤ D) (hD2 : D ≤ 100000) : ∃ st, f_law_19 n L xs (nI i) sv x inp ou ru no fo rd rr pa M p3 so = some st ∧ RLw (D + 99) st := by
  obtain ⟨P, NP, E, Bs, F, Pt, Ap, T, LC, CC, FC, h⟩ := h
  have h : RXx P NP E Bs F Pt Ap T LC CC FC D x inp ou ru no rd pa M so := h
  obtain ⟨r, M', o1, o2, he⟩ := lq_shortage (n := n) (sv := sv) (x := x) h.1 h.2.2.1 (by omega) 
  refine ⟨(x, inp, ou, ru, no, fo, rd, rr, pa, M', p3, so), ?_, (h.rx.eqM he (Cpy.rf no)).mono (by omega)⟩
  unfold f_law_19
  rw [o1, ebnd, o2, ebnd2, if_pos rfl]
theorem law_20 (h : RX D x inp ou ru no rd pa M so) (hi : i + 5 < L) (hL : L ≤ 3072) (hn : 13000 < n) (hD : 2100 ≤ D) (hD2 : D ≤ 100000) : ∃ st, f_law_20 n L xs (nI i) sv x inp ou ru no fo rd rr pa M p3 so = some st ∧ RLw (D + 99) st := by
  obtain ⟨P, NP, E, Bs, F, Pt, Ap, T, LC, CC, FC, h⟩ := h
  have h : RXx P NP E Bs F Pt Ap T LC CC FC D x inp ou ru no rd pa M so := h
  obtain ⟨r, M', o1, o2, he⟩ := lq_overdue (n := n) (sv := sv) (x := x) h.1 h.2.2.1 (by omega) 
  refine ⟨(x, inp, ou, ru, no, fo, rd, rr, pa, M', p3, so), ?_, (h.rx.eqM he (Cpy.rf no)).mono (by omega)⟩
  unfold f_law_20
  rw [o1, ebnd, o2, ebnd2, if_pos rfl]
theorem law_21 (h : RX D x inp ou ru no rd pa M so) (hi : i + 5 < L) (hL : L ≤ 3072) (hn : 13000 < n) (hD : 2100 ≤ D) (hD2 : D ≤ 100000) : ∃ st, f_law_21 n L xs (nI i) sv x inp ou ru no fo rd rr pa M p3 so = some st ∧ RLw (D + 99) st := by
  obtain ⟨P, NP, E, Bs, F, Pt, Ap, T, LC, CC, FC, h⟩ := h
  have h : RXx P NP E Bs F Pt Ap T LC CC FC D x inp ou ru no rd pa M so := h
  obtain ⟨r, M', o1, o2, he⟩ := lq_firstBroken (n := n) (sv := sv) (x := x) h.1 h.2.2.1 (by omega) 
  refine ⟨(x, inp, ou, ru, no, fo, rd, rr, pa, M', p3, so), ?_, (h.rx.eqM he (Cpy.rf no)).mono (by omega)⟩
  unfold f_law_21
  rw [o1, ebnd, o2, ebnd2, if_pos rfl]
theorem law_22 (h : RX D x inp ou ru no rd pa M so) (hi : i + 5 < L) (hL : L ≤ 3072) (hn : 13000 < n) (hD : 2100 ≤ D) (hD2 : D ≤ 100000) : ∃ st, f_law_22 n L xs (nI i) sv x inp ou ru no fo rd rr pa M p3 so = some st ∧ RLw (D + 99) st := by
  obtain ⟨P, NP, E, Bs, F, Pt, Ap, T, LC, CC, FC, h⟩ := h
  have h : RXx P NP E Bs F Pt Ap T LC CC FC D x inp ou ru no rd pa M so := h
  obtain ⟨r, M', o1, o2, he⟩ := lq_worst (n := n) (sv := sv) (x := x) h.1 h.2.2.1 (by omega) 
  refine ⟨(x, inp, ou, ru, no, fo, rd, rr, pa, M', p3, so), ?_, (h.rx.eqM he (Cpy.rf no)).mono (by omega)⟩
  unfold f_law_22
  rw [o1, ebnd, o2, ebnd2, if_pos rfl]
theorem law_23 (h : RX D x inp ou ru no rd pa M so) (hi : i + 5 < L) (hL : L ≤ 3072) (hn : 13000 < n) (hD : 2100 ≤ D) (hD2 : D ≤ 100000) : ∃ st, f_law_23 n L xs (nI i) sv x inp ou ru no fo rd rr pa M p3 so = some st ∧ RLw (D + 99) st := by
  obtain ⟨P, NP, E, Bs, F, Pt, Ap, T, LC, CC, FC, h⟩ := h
  have h : RXx P NP E Bs F Pt Ap T LC CC FC D x inp ou ru no rd pa M so := h
  obtain ⟨r, M', o1, o2, he⟩ := lq_meanLate (n := n) (sv := sv) (x := x) h.1 h.2.2.1 (by omega) hD2
  refine ⟨(x, inp, ou, ru, no, fo, rd, rr, pa, M', p3, so), ?_, (h.rx.eqM he (Cpy.rf no)).mono (by omega)⟩
  unfold f_law_23
  rw [o1, ebnd, o2, ebnd2, if_pos rfl]
theorem law_24 (h : RX D x inp ou ru no rd pa M so) (hi : i + 5 < L) (hL : L ≤ 3072) (hn : 13000 < n) (hD : 2100 ≤ D) (hD2 : D ≤ 100000) : ∃ st, f_law_24 n L xs (nI i) sv x inp ou ru no fo rd rr pa M p3 so = some st ∧ RLw (D + 99) st := by
  obtain ⟨P, NP, E, Bs, F, Pt, Ap, T, LC, CC, FC, h⟩ := h
  have h : RXx P NP E Bs F Pt Ap T LC CC FC D x inp ou ru no rd pa M so := h
  obtain ⟨r, M', o1, o2, he, hN⟩ := lq_metShare (n := n) (sv := sv) (x := x) h.1 h.2.2.1 (by omega)
  refine ⟨(x, inp, ou, ru, no, fo, rd, rr, pa, M', p3, so), ?_, (h.rx.eqM he (Cpy.rf no)).mono (by omega)⟩
  unfold f_law_24
  rw [o1, ebnd, hN, o2, ebnd2, hN, if_pos rfl]
theorem law_25 (h : RX D x inp ou ru no rd pa M so) (hi : i + 5 < L) (hL : L ≤ 3072) (hn : 13000 < n) (hD : 2100 ≤ D) (hD2 : D ≤ 100000) : ∃ st, f_law_25 n L xs (nI i) sv x inp ou ru no fo rd rr pa M p3 so = some st ∧ RLw (D + 99) st := by
  obtain ⟨P, NP, E, Bs, F, Pt, Ap, T, LC, CC, FC, h⟩ := h
  have h : RXx P NP E Bs F Pt Ap T LC CC FC D x inp ou ru no rd pa M so := h
  obtain ⟨no', pa', p, k, M', b, o1, o2, hr, hk, hp⟩ := lk_run (n := n) (sv := sv) (p3 := p3) h hn hD hD2 (xs (i + 1))
  refine ⟨(x, inp, ou, ru, no', fo, rd, rr, pa', M', p, so), ?_, hr.mono (by omega)⟩
  unfold f_law_25
  rw [ga1 hi hL, o1, ebnd4, ga1 hi hL, o2, ebnd2, thr, ebnd, if_pos hk]
  by_cases q : k = 0
  · rw [if_pos q, go0, hp q, if_pos ((cmp0 _ _).mpr rfl)]
  · rw [if_neg q]
theorem law_26 (h : RX D x inp ou ru no rd pa M so) (hi : i + 5 < L) (hL : L ≤ 3072) (hn : 13000 < n) (hD : 2100 ≤ D) (hD2 : D ≤ 100000) : ∃ st, f_law_26 n L xs (nI i) sv x inp ou ru no fo rd rr pa M p3 so = some st ∧ RLw (D + 99) st := by
  obtain ⟨P, NP, E, Bs, F, Pt, Ap, T, LC, CC, FC, h⟩ := h
  have h : RXx P NP E Bs F Pt Ap T LC CC FC D x inp ou ru no rd pa M so := h
  obtain ⟨no', pa', p, k, M', b, o1, o2, hr, hk, hp⟩ := lk_ask (n := n) (sv := sv) (p3 := p3) h hn (xs (i + 1)) (xs (i + 2)) (xs (i + 3))
  refine ⟨(x, inp, ou, ru, no', fo, rd, rr, pa', M', p, so), ?_, hr.mono (by omega)⟩
  unfold f_law_26
  rw [ga1 hi hL, ga2 hi hL, ga3 hi hL, o1, ebnd4, ga1 hi hL, ga2 hi hL, ga3 hi hL, o2, ebnd2, thr, ebnd, if_pos hk]
  by_cases q : k = 0
  · rw [if_pos q, go0, hp q, if_pos ((cmp0 _ _).mpr rfl)]
  · rw [if_neg q]
theorem law_27 (h : RX D x inp ou ru no rd pa M so) (hi : i + 5 < L) (hL : L ≤ 3072) (hn : 13000 < n) (hD : 2100 ≤ D) (hD2 : D ≤ 100000) : ∃ st, f_law_27 n L xs (nI i) sv x inp ou ru no fo rd rr pa M p3 so = some st ∧ RLw (D + 99) st := by
  obtain ⟨P, NP, E, Bs, F, Pt, Ap, T, LC, CC, FC, h⟩ := h
  have h : RXx P NP E Bs F Pt Ap T LC CC FC D x inp ou ru no rd pa M so := h
  obtain ⟨no', pa', p, k, M', b, o1, o2, hr, hk, hp⟩ := lk_withdraw (n := n) (sv := sv) (p3 := p3) h hn (xs (i + 1))
  refine ⟨(x, inp, ou, ru, no', fo, rd, rr, pa', M', p, so), ?_, hr.mono (by omega)⟩
  unfold f_law_27
  rw [ga1 hi hL, o1, ebnd4, ga1 hi hL, o2, ebnd2, thr, ebnd, if_pos hk]
  by_cases q : k = 0
  · rw [if_pos q, go0, hp q, if_pos ((cmp0 _ _).mpr rfl)]
  · rw [if_neg q]
theorem law_28 (h : RX D x inp ou ru no rd pa M so) (hi : i + 5 < L) (hL : L ≤ 3072) (hn : 13000 < n) (hD : 2100 ≤ D) (hD2 : D ≤ 100000) : ∃ st, f_law_28 n L xs (nI i) sv x inp ou ru no fo rd rr pa M p3 so = some st ∧ RLw (D + 99) st := by
  obtain ⟨P, NP, E, Bs, F, Pt, Ap, T, LC, CC, FC, h⟩ := h
  have h : RXx P NP E Bs F Pt Ap T LC CC FC D x inp ou ru no rd pa M so := h
  obtain ⟨no', pa', p, k, M', b, o1, o2, hr, hk, hp⟩ := lk_giveBack (n := n) (sv := sv) (p3 := p3) h hn (xs (i + 1)) (xs (i + 2))
  refine ⟨(x, inp, ou, ru, no', fo, rd, rr, pa', M', p, so), ?_, hr.mono (by omega)⟩
  unfold f_law_28
  rw [ga1 hi hL, ga2 hi hL, o1, ebnd4, ga1 hi hL, ga2 hi hL, o2, ebnd2, thr, ebnd, if_pos hk]
  by_cases q : k = 0
  · rw [if_pos q, go0, hp q, if_pos ((cmp0 _ _).mpr rfl)]
  · rw [if_neg q]
theorem law_29 (h : RX D x inp ou ru no rd pa M so) (hi : i + 5 < L) (hL : L ≤ 3072) (hn : 13000 < n) (hD : 2100 ≤ D) (hD2 : D ≤ 100000) : ∃ st, f_law_29 n L xs (nI i) sv x inp ou ru no fo rd rr pa M p3 so = some st ∧ RLw (D + 99) st := by
  obtain ⟨P, NP, E, Bs, F, Pt, Ap, T, LC, CC, FC, h⟩ := h
  have h : RXx P NP E Bs F Pt Ap T LC CC FC D x inp ou ru no rd pa M so := h
  obtain ⟨no', pa', p, k, M', b, o1, o2, hr, hk, hp⟩ := lk_renew (n := n) (sv := sv) (p3 := p3) h hn hD2 (xs (i + 1)) (xs (i + 2))
  refine ⟨(x, inp, ou, ru, no', fo, rd, rr, pa', M', p, so), ?_, hr.mono (by omega)⟩
  unfold f_law_29
  rw [ga1 hi hL, ga2 hi hL, o1, ebnd4, ga1 hi hL, ga2 hi hL, o2, ebnd2, thr, ebnd, if_pos hk]
  by_cases q : k = 0
  · rw [if_pos q, go0, hp q, if_pos ((cmp0 _ _).mpr rfl)]
  · rw [if_neg q]
theorem law_30 (h : RX D x inp ou ru no rd pa M so) (hi : i + 5 < L) (hL : L ≤ 3072) (hn : 13000 < n) (hD : 2100 ≤ D) (hD2 : D ≤ 100000) : ∃ st, f_law_30 n L xs (nI i) sv x inp ou ru no fo rd rr pa M p3 so = some st ∧ RLw (D + 99) st := by
  obtain ⟨P, NP, E, Bs, F, Pt, Ap, T, LC, CC, FC, h⟩ := h
  have h : RXx P NP E Bs F Pt Ap T LC CC FC D x inp ou ru no rd pa M so := h
  obtain ⟨no', pa', p, k, M', b, o1, o2, hr, hk, hp⟩ := lk_stall (n := n) (sv := sv) (p3 := p3) h hn (xs (i + 1)) (xs (i + 2))
  refine ⟨(x, inp, ou, ru, no', fo, rd, rr, pa', M', p, so), ?_, hr.mono (by omega)⟩
  unfold f_law_30
  rw [ga1 hi hL, ga2 hi hL, o1, ebnd4, ga1 hi hL, ga2 hi hL, o2, ebnd2, thr, ebnd, if_pos hk]
  by_cases q : k = 0
  · rw [if_pos q, go0, hp q, if_pos ((cmp0 _ _).mpr rfl)]
  · rw [if_neg q]
theorem law_31 (h : RX D x inp ou ru no rd pa M so) (hi : i + 5 < L) (hL : L ≤ 3072) (hn : 13000 < n) (hD : 2100 ≤ D) (hD2 : D ≤ 100000) : ∃ st, f_law_31 n L xs (nI i) sv x inp ou ru no fo rd rr pa M p3 so = some st ∧ RLw (D + 99) st := by
  obtain ⟨P, NP, E, Bs, F, Pt, Ap, T, LC, CC, FC, h⟩ := h
  have h : RXx P NP E Bs F Pt Ap T LC CC FC D x inp ou ru no rd pa M so := h
  obtain ⟨no', pa', p, k, M', b, o1, o2, hr, hk, hp⟩ := lk_appeal (n := n) (sv := sv) (p3 := p3) h h.1.ap hn (xs (i + 1))
  refine ⟨(x, inp, ou, ru, no', fo, rd, rr, pa', M', p, so), ?_, hr.mono (by omega)⟩
  unfold f_law_31
  rw [ga1 hi hL, o1, ebnd4, ga1 hi hL, o2, ebnd2, thr, ebnd, if_pos hk]
  by_cases q : k = 0
  · rw [if_pos q, go0, hp q, if_pos ((cmp0 _ _).mpr rfl)]
  · rw [if_neg q]
theorem law_32 (h : RX D x inp ou ru no rd pa M so) (hi : i + 5 < L) (hL : L ≤ 3072) (hn : 13000 < n) (hD : 2100 ≤ D) (hD2 : D ≤ 100000) : ∃ st, f_law_32 n L xs (nI i) sv x inp ou ru no fo rd rr pa M p3 so = some st ∧ RLw (D + 99) st := by
  obtain ⟨P, NP, E, Bs, F, Pt, Ap, T, LC, CC, FC, h⟩ := h
  have h : RXx P NP E Bs F Pt Ap T LC CC FC D x inp ou ru no rd pa M so := h
  obtain ⟨no', pa', p, k, M', b, o1, o2, hr, hk, hp⟩ := lk_setOrder (n := n) (sv := sv) (p3 := p3) h hn (xs (i + 1))
  refine ⟨(x, inp, ou, ru, no', fo, rd, rr, pa', M', p, so), ?_, hr.mono (by omega)⟩
  unfold f_law_32
  rw [ga1 hi hL, o1, ebnd4, ga1 hi hL, o2, ebnd2, thr, ebnd, if_pos hk]
  by_cases q : k = 0
  · rw [if_pos q, go0, hp q, if_pos ((cmp0 _ _).mpr rfl)]
  · rw [if_neg q]
theorem law_33 (h : RX D x inp ou ru no rd pa M so) (hi : i + 5 < L) (hL : L ≤ 3072) (hn : 13000 < n) (hD : 2100 ≤ D) (hD2 : D ≤ 100000) : ∃ st, f_law_33 n L xs (nI i) sv x inp ou ru no fo rd rr pa M p3 so = some st ∧ RLw (D + 99) st := by
  obtain ⟨P, NP, E, Bs, F, Pt, Ap, T, LC, CC, FC, h⟩ := h
  have h : RXx P NP E Bs F Pt Ap T LC CC FC D x inp ou ru no rd pa M so := h
  obtain ⟨no', pa', p, k, M', b, o1, o2, hr, hk, hp⟩ := lk_undo (n := n) (sv := sv) (p3 := p3) h hn 
  refine ⟨(x, inp, ou, ru, no', fo, rd, rr, pa', M', p, so), ?_, hr.mono (by omega)⟩
  unfold f_law_33
  rw [o1, ebnd4, o2, ebnd2, thr, ebnd, if_pos hk]
  by_cases q : k = 0
  · rw [if_pos q, go0, hp q, if_pos ((cmp0 _ _).mpr rfl)]
  · rw [if_neg q]
end CALLS
