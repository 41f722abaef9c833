section CALLS
variable {n D L i : Nat} {xs : Nat → Int32} {sv : Value} {x inp ou ru no fo rd rr M : OS} {pa : PS} {p3 : Nat → Int64} {so : Option OS}
theorem law_34 (h : RX D x inp ou ru no rd pa M so) (hi : i + 5 < L) (hL : L ≤ 3072) (hn : 13000 < n) (hD : 2100 ≤ D) (hD2 : D ≤ 100000) : ∃ st, f_law_34 n L xs (nI i) sv x inp ou ru no fo rd rr pa M p3 so = some st ∧ RLw (D + 99) st := by
  obtain ⟨P, NP, E, Bs, F, Pt, Ap, T, LC, CC, FC, h⟩ := h
  have h : RXx P NP E Bs F Pt Ap T LC CC FC D x inp ou ru no rd pa M so := h
  obtain ⟨fo', p, k, M', b, o1, o2, he, hk, hp⟩ := lk_metIn (n := n) (sv := sv) (x := x) (fo := fo) (p3 := p3) h.1 h.2.2.1 (by omega) hD hD2 (xs (i + 1)) (xs (i + 2))
  refine ⟨(x, inp, ou, ru, no, fo', rd, rr, pa, M', p, so), ?_, (h.rx.eqM he (Cpy.rf no)).mono (by omega)⟩
  unfold f_law_34
  rw [ga1 hi hL, ga2 hi hL, o1, ebnd3, ga1 hi hL, ga2 hi hL, o2, ebnd2, thr, ebnd, if_pos hk]
  by_cases q : k = 0
  · rw [if_pos q, go0, hp q, if_pos ((cmp0 _ _).mpr rfl)]
  · rw [if_neg q]
theorem law_35 (h : RX D x inp ou ru no rd pa M so) (hi : i + 5 < L) (hL : L ≤ 3072) (hn : 13000 < n) (hD : 2100 ≤ D) (hD2 : D ≤ 100000) : ∃ st, f_law_35 n L xs (nI i) sv x inp ou ru no fo rd rr pa M p3 so = some st ∧ RLw (D + 99) st := by
  obtain ⟨P, NP, E, Bs, F, Pt, Ap, T, LC, CC, FC, h⟩ := h
  have h : RXx P NP E Bs F Pt Ap T LC CC FC D x inp ou ru no rd pa M so := h
  obtain ⟨fo', p, k, M', b, o1, o2, he, hk, hp⟩ := lk_refusedIn (n := n) (sv := sv) (x := x) (fo := fo) (p3 := p3) h.1 h.2.2.1 (by omega) hD hD2 (xs (i + 1)) (xs (i + 2))
  refine ⟨(x, inp, ou, ru, no, fo', rd, rr, pa, M', p, so), ?_, (h.rx.eqM he (Cpy.rf no)).mono (by omega)⟩
  unfold f_law_35
  rw [ga1 hi hL, ga2 hi hL, o1, ebnd3, ga1 hi hL, ga2 hi hL, o2, ebnd2, thr, ebnd, if_pos hk]
  by_cases q : k = 0
  · rw [if_pos q, go0, hp q, if_pos ((cmp0 _ _).mpr rfl)]
  · rw [if_neg q]
theorem law_36 (h : RX D x inp ou ru no rd pa M so) (hi : i + 5 < L) (hL : L ≤ 3072) (hn : 13000 < n) (hD : 2100 ≤ D) (hD2 : D ≤ 100000) : ∃ st, f_law_36 n L xs (nI i) sv x inp ou ru no fo rd rr pa M p3 so = some st ∧ RLw (D + 99) st := by
  obtain ⟨P, NP, E, Bs, F, Pt, Ap, T, LC, CC, FC, h⟩ := h
  have h : RXx P NP E Bs F Pt Ap T LC CC FC D x inp ou ru no rd pa M so := h
  obtain ⟨fo', p, k, M', b, o1, o2, he, hk, hp⟩ := lk_wouldFine (n := n) (sv := sv) (x := x) (fo := fo) (p3 := p3) h.1 h.2.2.1 h.2.2.2.2.2.2.2.2.1 (by omega) hD hD2 (xs (i + 1))
  refine ⟨(x, inp, ou, ru, no, fo', rd, rr, pa, M', p, so), ?_, (h.rx.eqM he (Cpy.rf no)).mono (by omega)⟩
  unfold f_law_36
  rw [ga1 hi hL, o1, ebnd3, ga1 hi hL, o2, ebnd2, thr, ebnd, if_pos hk]
  by_cases q : k = 0
  · rw [if_pos q, go0, hp q, if_pos ((cmp0 _ _).mpr rfl)]
  · rw [if_neg q]
theorem law_37 (h : RX D x inp ou ru no rd pa M so) (hi : i + 5 < L) (hL : L ≤ 3072) (hn : 13000 < n) (hD : 2100 ≤ D) (hD2 : D ≤ 100000) : ∃ st, f_law_37 n L xs (nI i) sv x inp ou ru no fo rd rr pa M p3 so = some st ∧ RLw (D + 99) st := by
  obtain ⟨P, NP, E, Bs, F, Pt, Ap, T, LC, CC, FC, h⟩ := h
  have h : RXx P NP E Bs F Pt Ap T LC CC FC D x inp ou ru no rd pa M so := h
  obtain ⟨fo', p, k, M', b, o1, o2, he, hk, hp⟩ := lk_wouldPay (n := n) (sv := sv) (x := x) (fo := fo) (p3 := p3) h.1 h.2.2.1 h.2.2.2.2.2.2.2.2.2 (by omega) hD hD2 (xs (i + 1))
  refine ⟨(x, inp, ou, ru, no, fo', rd, rr, pa, M', p, so), ?_, (h.rx.eqM he (Cpy.rf no)).mono (by omega)⟩
  unfold f_law_37
  rw [ga1 hi hL, o1, ebnd3, ga1 hi hL, o2, ebnd2, thr, ebnd, if_pos hk]
  by_cases q : k = 0
  · rw [if_pos q, go0, hp q, if_pos ((cmp0 _ _).mpr rfl)]
  · rw [if_neg q]
theorem law_38 (h : RX D x inp ou ru no rd pa M so) (hi : i + 5 < L) (hL : L ≤ 3072) (hn : 13000 < n) (hD : 2100 ≤ D) (hD2 : D ≤ 100000) : ∃ st, f_law_38 n L xs (nI i) sv x inp ou ru no fo rd rr pa M p3 so = some st ∧ RLw (D + 99) st := by
  obtain ⟨P, NP, E, Bs, F, Pt, Ap, T, LC, CC, FC, h⟩ := h
  have h : RXx P NP E Bs F Pt Ap T LC CC FC D x inp ou ru no rd pa M so := h
  obtain ⟨fo', p, k, M', b, o1, o2, he, hk, hp⟩ := lk_freeIn (n := n) (sv := sv) (x := x) (fo := fo) (p3 := p3) h.1 h.2.2.1 (by omega) hD hD2 (xs (i + 1))
  refine ⟨(x, inp, ou, ru, no, fo', rd, rr, pa, M', p, so), ?_, (h.rx.eqM he (Cpy.rf no)).mono (by omega)⟩
  unfold f_law_38
  rw [ga1 hi hL, o1, ebnd3, ga1 hi hL, o2, ebnd2, thr, ebnd, if_pos hk]
  by_cases q : k = 0
  · rw [if_pos q, go0, hp q, if_pos ((cmp0 _ _).mpr rfl)]
  · rw [if_neg q]
theorem law_39 (h : RX D x inp ou ru no rd pa M so) (hi : i + 5 < L) (hL : L ≤ 3072) (hn : 13000 < n) (hD : 2100 ≤ D) (hD2 : D ≤ 100000) : ∃ st, f_law_39 n L xs (nI i) sv x inp ou ru no fo rd rr pa M p3 so = some st ∧ RLw (D + 99) st := by
  obtain ⟨P, NP, E, Bs, F, Pt, Ap, T, LC, CC, FC, h⟩ := h
  have h : RXx P NP E Bs F Pt Ap T LC CC FC D x inp ou ru no rd pa M so := h
  obtain ⟨fo', p, k, M', b, o1, o2, he, hk, hp⟩ := lk_processIn (n := n) (sv := sv) (x := x) (fo := fo) (p3 := p3) h.1 h.2.2.1 (by omega) hD hD2 (xs (i + 1)) (xs (i + 2)) (xs (i + 3))
  refine ⟨(x, inp, ou, ru, no, fo', rd, rr, pa, M', p, so), ?_, (h.rx.eqM he (Cpy.rf no)).mono (by omega)⟩
  unfold f_law_39
  rw [ga1 hi hL, ga2 hi hL, ga3 hi hL, o1, ebnd3, ga1 hi hL, ga2 hi hL, ga3 hi hL, o2, ebnd2, thr, ebnd, if_pos hk]
  by_cases q : k = 0
  · rw [if_pos q, go0, hp q, if_pos ((cmp0 _ _).mpr rfl)]
  · rw [if_neg q]
theorem law_40 (h : RX D x inp ou ru no rd pa M so) (hi : i + 5 < L) (hL : L ≤ 3072) (hn : 13000 < n) (hD : 2100 ≤ D) (hD2 : D ≤ 100000) : ∃ st, f_law_40 n L xs (nI i) sv x inp ou ru no fo rd rr pa M p3 so = some st ∧ RLw (D + 99) st := by
  obtain ⟨P, NP, E, Bs, F, Pt, Ap, T, LC, CC, FC, h⟩ := h
  have h : RXx P NP E Bs F Pt Ap T LC CC FC D x inp ou ru no rd pa M so := h
  obtain ⟨fo', p, k, M', b, o1, o2, he, hk, hp⟩ := lk_bestOrder (n := n) (sv := sv) (x := x) (fo := fo) (p3 := p3) h.1 h.2.2.1 (by omega) hD hD2 (xs (i + 1))
  refine ⟨(x, inp, ou, ru, no, fo', rd, rr, pa, M', p, so), ?_, (h.rx.eqM he (Cpy.rf no)).mono (by omega)⟩
  unfold f_law_40
  rw [ga1 hi hL, o1, ebnd3, ga1 hi hL, o2, ebnd2, thr, ebnd, if_pos hk]
  by_cases q : k = 0
  · rw [if_pos q, go0, hp q, if_pos ((cmp0 _ _).mpr rfl)]
  · rw [if_neg q]
theorem law_41 (h : RX D x inp ou ru no rd pa M so) (hi : i + 5 < L) (hL : L ≤ 3072) (hn : 13000 < n) (hD : 2100 ≤ D) (hD2 : D ≤ 100000) : ∃ st, f_law_41 n L xs (nI i) sv x inp ou ru no fo rd rr pa M p3 so = some st ∧ RLw (D + 99) st := by
  obtain ⟨P, NP, E, Bs, F, Pt, Ap, T, LC, CC, FC, h⟩ := h
  have h : RXx P NP E Bs F Pt Ap T LC CC FC D x inp ou ru no rd pa M so := h
  obtain ⟨fo', p, k, M', b, o1, o2, he, hk, hp⟩ := lk_helps (n := n) (sv := sv) (x := x) (fo := fo) (p3 := p3) h.1 h.2.2.1 (by omega) hD hD2 (xs (i + 1)) (xs (i + 2))
  refine ⟨(x, inp, ou, ru, no, fo', rd, rr, pa, M', p, so), ?_, (h.rx.eqM he (Cpy.rf no)).mono (by omega)⟩
  unfold f_law_41
  rw [ga1 hi hL, ga2 hi hL, o1, ebnd3, ga1 hi hL, ga2 hi hL, o2, ebnd2, thr, ebnd, if_pos hk]
  by_cases q : k = 0
  · rw [if_pos q, go0, hp q, if_pos ((cmp0 _ _).mpr rfl)]
  · rw [if_neg q]
theorem law_42 (h : RX D x inp ou ru no rd pa M so) (hi : i + 5 < L) (hL : L ≤ 3072) (hn : 13000 < n) (hD : 2100 ≤ D) (hD2 : D ≤ 100000) : ∃ st, f_law_42 n L xs (nI i) sv x inp ou ru no fo rd rr pa M p3 so = some st ∧ RLw (D + 99) st := by
  obtain ⟨P, NP, E, Bs, F, Pt, Ap, T, LC, CC, FC, h⟩ := h
  have h : RXx P NP E Bs F Pt Ap T LC CC FC D x inp ou ru no rd pa M so := h
  obtain ⟨p, k, M', b, o1, o2, he, hk, hp⟩ := lk_wouldAppeal (n := n) (sv := sv) (x := x) (p3 := p3) h.1 h.2.2.1 h.1.ap (by omega) (xs (i + 1))
  refine ⟨(x, inp, ou, ru, no, fo, rd, rr, pa, M', p, so), ?_, (h.rx.eqM he (Cpy.rf no)).mono (by omega)⟩
  unfold f_law_42
  rw [ga1 hi hL, o1, ebnd2, ga1 hi hL, o2, ebnd2, thr, ebnd, if_pos hk]
  by_cases q : k = 0
  · rw [if_pos q, go0, hp q, if_pos ((cmp0 _ _).mpr rfl)]
  · rw [if_neg q]
theorem law_43 (h : RX D x inp ou ru no rd pa M so) (hi : i + 5 < L) (hL : L ≤ 3072) (hn : 13000 < n) (hD : 2100 ≤ D) (hD2 : D ≤ 100000) : ∃ st, f_law_43 n L xs (nI i) sv x inp ou ru no fo rd rr pa M p3 so = some st ∧ RLw (D + 99) st := by
  obtain ⟨P, NP, E, Bs, F, Pt, Ap, T, LC, CC, FC, h⟩ := h
  have h : RXx P NP E Bs F Pt Ap T LC CC FC D x inp ou ru no rd pa M so := h
  obtain ⟨ou', p, k, M', b, o1, o2, hr, hk, hp⟩ := lk_print (n := n) (sv := sv) (p3 := p3) h hD2 (by omega) (xs (i + 1))
  refine ⟨(x, inp, ou', ru, no, fo, rd, rr, pa, M', p, so), ?_, hr.mono (by omega)⟩
  unfold f_law_43
  rw [ga1 hi hL, o1, ebnd3, ga1 hi hL, o2, ebnd2, thr, ebnd, if_pos hk]
  by_cases q : k = 0
  · rw [if_pos q, go0, hp q, if_pos ((cmp0 _ _).mpr rfl)]
  · rw [if_neg q]
theorem law_44 (h : RX D x inp ou ru no rd pa M so) (hi : i + 5 < L) (hL : L ≤ 3072) (hn : 13000 < n) (hD : 2100 ≤ D) (hD2 : D ≤ 100000) : ∃ st, f_law_44 n L xs (nI i) sv x inp ou ru no fo rd rr pa M p3 so = some st ∧ RLw (D + 99) st := by
  obtain ⟨P, NP, E, Bs, F, Pt, Ap, T, LC, CC, FC, h⟩ := h
  have h : RXx P NP E Bs F Pt Ap T LC CC FC D x inp ou ru no rd pa M so := h
  obtain ⟨r, M', o1, o2, he⟩ := lq_outputByte (n := n) (sv := sv) (x := x) h.2.2.2.2.1 (xs (i + 1))
  refine ⟨(x, inp, ou, ru, no, fo, rd, rr, pa, M', p3, so), ?_, (h.rx.eqM he (Cpy.rf no)).mono (by omega)⟩
  unfold f_law_44
  rw [ga1 hi hL, o1, ebnd, ga1 hi hL, o2, ebnd2, if_pos rfl]
theorem law_45 (h : RX D x inp ou ru no rd pa M so) (hi : i + 5 < L) (hL : L ≤ 3072) (hn : 13000 < n) (hD : 2100 ≤ D) (hD2 : D ≤ 100000) : ∃ st, f_law_45 n L xs (nI i) sv x inp ou ru no fo rd rr pa M p3 so = some st ∧ RLw (D + 99) st := by
  obtain ⟨P, NP, E, Bs, F, Pt, Ap, T, LC, CC, FC, h⟩ := h
  have h : RXx P NP E Bs F Pt Ap T LC CC FC D x inp ou ru no rd pa M so := h
  obtain ⟨x', s', r, M', o1, o2, hr⟩ := lk_save (n := n) h hn
  refine ⟨(x', inp, ou, ru, no, fo, rd, rr, pa, M', p3, some s'), ?_, hr.mono (by omega)⟩
  unfold f_law_45
  rw [o1, ebnd3, o2, ebnd2, if_pos rfl]
theorem law_46 (h : RX D x inp ou ru no rd pa M so) (hi : i + 5 < L) (hL : L ≤ 3072) (hn : 13000 < n) (hD : 2100 ≤ D) (hD2 : D ≤ 100000) : ∃ st, f_law_46 n L xs (nI i) sv x inp ou ru no fo rd rr pa M p3 so = some st ∧ RLw (D + 99) st := by
  obtain ⟨P, NP, E, Bs, F, Pt, Ap, T, LC, CC, FC, h⟩ := h
  have h : RXx P NP E Bs F Pt Ap T LC CC FC D x inp ou ru no rd pa M so := h
  obtain ⟨no', pa', p, k, M', b, o1, o2, hr, hk, hp⟩ := lk_restore (n := n) (p3 := p3) h hn
  refine ⟨(x, inp, ou, ru, no', fo, rd, rr, pa', M', p, so), ?_, hr.mono (by omega)⟩
  unfold f_law_46
  rw [o1, ebnd4, o2, ebnd2, thr, ebnd, if_pos hk]
  by_cases q : k = 0
  · rw [if_pos q, go0, hp q, if_pos ((cmp0 _ _).mpr rfl)]
  · rw [if_neg q]
end CALLS
