/-! one call of the law after another: first what all share -/
section CALLS
variable {n D L i : Nat} {xs : Nat → Int32} {sv : Value} {x inp ou ru no fo rd rr M : OS} {pa : PS} {p3 : Nat → Int64} {so : Option OS}
/-- the relation, of the law's whole state -/
def RLw (D : Nat) (st : LST) : Prop := RX D st.1 st.2.1 st.2.2.1 st.2.2.2.1 st.2.2.2.2.1 st.2.2.2.2.2.2.1 st.2.2.2.2.2.2.2.2.1 st.2.2.2.2.2.2.2.2.2.1 st.2.2.2.2.2.2.2.2.2.2.2
theorem RLw.mono {D2 : Nat} {st : LST} (h : RLw D st) (hD : D ≤ D2) : RLw D2 st := RX.mono h hD
theorem ga {β : Type} {j : Nat} {f : Int32 → Option β} (hi : i + 5 < L) (hL : L ≤ 3072) (hj : j ≤ 5) : gI L (nI i + nI j) (Let (xs (nI i + nI j).toNatClampNeg) f) = f (xs (i + j)) := by
  rw [nI_add, egN (by omega) (by omega), eLet, nI_clamp (by omega)]
theorem ga1 {β : Type} {f : Int32 → Option β} (hi : i + 5 < L) (hL : L ≤ 3072) : gI L (nI i + (1 : Int32)) (Let (xs (nI i + (1 : Int32)).toNatClampNeg) f) = f (xs (i + 1)) := ga (j := 1) hi hL (by decide)
theorem ga2 {β : Type} {f : Int32 → Option β} (hi : i + 5 < L) (hL : L ≤ 3072) : gI L (nI i + (2 : Int32)) (Let (xs (nI i + (2 : Int32)).toNatClampNeg) f) = f (xs (i + 2)) := ga (j := 2) hi hL (by decide)
theorem ga3 {β : Type} {f : Int32 → Option β} (hi : i + 5 < L) (hL : L ≤ 3072) : gI L (nI i + (3 : Int32)) (Let (xs (nI i + (3 : Int32)).toNatClampNeg) f) = f (xs (i + 3)) := ga (j := 3) hi hL (by decide)
theorem ga4 {β : Type} {f : Int32 → Option β} (hi : i + 5 < L) (hL : L ≤ 3072) : gI L (nI i + (4 : Int32)) (Let (xs (nI i + (4 : Int32)).toNatClampNeg) f) = f (xs (i + 4)) := ga (j := 4) hi hL (by decide)
theorem ga5 {β : Type} {f : Int32 → Option β} (hi : i + 5 < L) (hL : L ≤ 3072) : gI L (nI i + (5 : Int32)) (Let (xs (nI i + (5 : Int32)).toNatClampNeg) f) = f (xs (i + 5)) := ga (j := 5) hi hL (by decide)
theorem thr : f_X9_thrown n M = some (M.1 0) := rfl
theorem ebnd9 {α1 α2 α3 α4 α5 α6 α7 α8 α9 β : Type} (y1 : α1) (y2 : α2) (y3 : α3) (y4 : α4) (y5 : α5) (y6 : α6) (y7 : α7) (y8 : α8) (y9 : α9) (f : α1 → α2 → α3 → α4 → α5 → α6 → α7 → α8 → α9 → Option β) : bnd9 (some (y1, y2, y3, y4, y5, y6, y7, y8, y9)) f = f y1 y2 y3 y4 y5 y6 y7 y8 y9 := rfl
theorem Ru.ap {P NP E Bs F Pt Ap : Nat} (h : Ru P NP E Bs F Pt Ap ru M) : Ap ≤ 1000 := by
  have := h.2.2.2.2.2.2.2.2.2.2.2.2.2
  omega
theorem PaR.cnt {P NP : Nat} (h : PaR P NP D pa M) : pa.1 2 = M.1 15 := by
  obtain ⟨nx, k, h1, h2, h3, h4, h5, _⟩ := h
  rw [h4, h5]
theorem law_0 (h : RX D x inp ou ru no rd pa M so) (hi : i + 5 < L) (hL : L ≤ 3072) (hn : 13000 < n) (hD : 2100 ≤ D) (hD2 : D ≤ 100000) : ∃ st, f_law_0 n L xs (nI i) sv x inp ou ru no fo rd rr pa M p3 so = some st ∧ RLw (D + 99) st := by
  obtain ⟨P, NP, E, Bs, F, Pt, Ap, T, LC, CC, FC, h⟩ := h
  have h : RXx P NP E Bs F Pt Ap T LC CC FC D x inp ou ru no rd pa M so := h
  obtain ⟨inp', M', r, o1, o2, hr⟩ := lk_feed (n := n) (sv := sv) h (by omega) (xs (i + 1)) (xs (i + 2)) (xs (i + 3)) (xs (i + 4)) (xs (i + 5))
  refine ⟨(x, inp', ou, ru, no, fo, rd, rr, pa, M', p3, so), ?_, hr.mono (by omega)⟩
  unfold f_law_0
  rw [ga1 hi hL, ga2 hi hL, ga3 hi hL, ga4 hi hL, ga5 hi hL, o1, ebnd2, ga1 hi hL, ga2 hi hL, ga3 hi hL, ga4 hi hL, ga5 hi hL, o2, ebnd2, if_pos rfl]
theorem law_1 (h : RX D x inp ou ru no rd pa M so) (hi : i + 5 < L) (hL : L ≤ 3072) (hn : 13000 < n) (hD : 2100 ≤ D) (hD2 : D ≤ 100000) : ∃ st, f_law_1 n L xs (nI i) sv x inp ou ru no fo rd rr pa M p3 so = some st ∧ RLw (D + 99) st := by
  obtain ⟨P, NP, E, Bs, F, Pt, Ap, T, LC, CC, FC, h⟩ := h
  have h : RXx P NP E Bs F Pt Ap T LC CC FC D x inp ou ru no rd pa M so := h
  obtain ⟨inp', M', r, o1, o2, hr⟩ := lk_truncate (n := n) (sv := sv) h (xs (i + 1))
  refine ⟨(x, inp', ou, ru, no, fo, rd, rr, pa, M', p3, so), ?_, hr.mono (by omega)⟩
  unfold f_law_1
  rw [ga1 hi hL, o1, ebnd2, ga1 hi hL, o2, ebnd2, if_pos rfl]
theorem law_2 (h : RX D x inp ou ru no rd pa M so) (hi : i + 5 < L) (hL : L ≤ 3072) (hn : 13000 < n) (hD : 2100 ≤ D) (hD2 : D ≤ 100000) : ∃ st, f_law_2 n L xs (nI i) sv x inp ou ru no fo rd rr pa M p3 so = some st ∧ RLw (D + 99) st := by
  obtain ⟨P, NP, E, Bs, F, Pt, Ap, T, LC, CC, FC, h⟩ := h
  have h : RXx P NP E Bs F Pt Ap T LC CC FC D x inp ou ru no rd pa M so := h
  obtain ⟨x', inp', ru', no', fo', rd', rr', pa', M', r, o1, o2, hr⟩ := lk_parse (n := n) (sv := sv) (fo := fo) (rr := rr) h hn hD
  refine ⟨(x', inp', ou, ru', no', fo', rd', rr', pa', M', p3, so), ?_, hr.mono (by omega)⟩
  unfold f_law_2
  rw [o1, ebnd9, o2, ebnd2, if_pos rfl]
theorem law_3 (h : RX D x inp ou ru no rd pa M so) (hi : i + 5 < L) (hL : L ≤ 3072) (hn : 13000 < n) (hD : 2100 ≤ D) (hD2 : D ≤ 100000) : ∃ st, f_law_3 n L xs (nI i) sv x inp ou ru no fo rd rr pa M p3 so = some st ∧ RLw (D + 99) st := by
  obtain ⟨P, NP, E, Bs, F, Pt, Ap, T, LC, CC, FC, h⟩ := h
  have h : RXx P NP E Bs F Pt Ap T LC CC FC D x inp ou ru no rd pa M so := h
  obtain ⟨r, M', o1, o2, he⟩ := lq_errorCode (n := n) (sv := sv) (x := x) h.2.2.2.2.2.1.1 
  refine ⟨(x, inp, ou, ru, no, fo, rd, rr, pa, M', p3, so), ?_, (h.rx.eqM he (Cpy.rf no)).mono (by omega)⟩
  unfold f_law_3
  rw [o1, ebnd, o2, ebnd2, if_pos rfl]
theorem law_4 (h : RX D x inp ou ru no rd pa M so) (hi : i + 5 < L) (hL : L ≤ 3072) (hn : 13000 < n) (hD : 2100 ≤ D) (hD2 : D ≤ 100000) : ∃ st, f_law_4 n L xs (nI i) sv x inp ou ru no fo rd rr pa M p3 so = some st ∧ RLw (D + 99) st := by
  obtain ⟨P, NP, E, Bs, F, Pt, Ap, T, LC, CC, FC, h⟩ := h
  have h : RXx P NP E Bs F Pt Ap T LC CC FC D x inp ou ru no rd pa M so := h
  obtain ⟨r, M', o1, o2, he⟩ := lq_errorOffset (n := n) (sv := sv) (x := x) h.2.2.2.2.2.1.2 
  refine ⟨(x, inp, ou, ru, no, fo, rd, rr, pa, M', p3, so), ?_, (h.rx.eqM he (Cpy.rf no)).mono (by omega)⟩
  unfold f_law_4
  rw [o1, ebnd, o2, ebnd2, if_pos rfl]
theorem law_5 (h : RX D x inp ou ru no rd pa M so) (hi : i + 5 < L) (hL : L ≤ 3072) (hn : 13000 < n) (hD : 2100 ≤ D) (hD2 : D ≤ 100000) : ∃ st, f_law_5 n L xs (nI i) sv x inp ou ru no fo rd rr pa M p3 so = some st ∧ RLw (D + 99) st := by
  obtain ⟨P, NP, E, Bs, F, Pt, Ap, T, LC, CC, FC, h⟩ := h
  have h : RXx P NP E Bs F Pt Ap T LC CC FC D x inp ou ru no rd pa M so := h
  obtain ⟨r, M', o1, o2, he⟩ := lq_count (n := n) (sv := sv) (x := x) h.1 h.2.2.1 h.2.2.2.2.2.2.1.cnt (by omega) (xs (i + 1))
  refine ⟨(x, inp, ou, ru, no, fo, rd, rr, pa, M', p3, so), ?_, (h.rx.eqM he (Cpy.rf no)).mono (by omega)⟩
  unfold f_law_5
  rw [ga1 hi hL, o1, ebnd, ga1 hi hL, o2, ebnd2, if_pos rfl]
theorem law_6 (h : RX D x inp ou ru no rd pa M so) (hi : i + 5 < L) (hL : L ≤ 3072) (hn : 13000 < n) (hD : 2100 ≤ D) (hD2 : D ≤ 100000) : ∃ st, f_law_6 n L xs (nI i) sv x inp ou ru no fo rd rr pa M p3 so = some st ∧ RLw (D + 99) st := by
  obtain ⟨P, NP, E, Bs, F, Pt, Ap, T, LC, CC, FC, h⟩ := h
  have h : RXx P NP E Bs F Pt Ap T LC CC FC D x inp ou ru no rd pa M so := h
  obtain ⟨inp', M', r, o1, o2, hr⟩ := lk_find (n := n) (sv := sv) h (by omega) 
  refine ⟨(x, inp', ou, ru, no, fo, rd, rr, pa, M', p3, so), ?_, hr.mono (by omega)⟩
  unfold f_law_6
  rw [o1, ebnd2, o2, ebnd2, if_pos rfl]
theorem law_7 (h : RX D x inp ou ru no rd pa M so) (hi : i + 5 < L) (hL : L ≤ 3072) (hn : 13000 < n) (hD : 2100 ≤ D) (hD2 : D ≤ 100000) : ∃ st, f_law_7 n L xs (nI i) sv x inp ou ru no fo rd rr pa M p3 so = some st ∧ RLw (D + 99) st := by
  obtain ⟨P, NP, E, Bs, F, Pt, Ap, T, LC, CC, FC, h⟩ := h
  have h : RXx P NP E Bs F Pt Ap T LC CC FC D x inp ou ru no rd pa M so := h
  obtain ⟨p, k, M', b, o1, o2, he, hk, hp⟩ := lk_process (n := n) (sv := sv) (x := x) (p3 := p3) h.1 h.2.2.1 (by omega) (xs (i + 1)) (xs (i + 2))
  refine ⟨(x, inp, ou, ru, no, fo, rd, rr, pa, M', p, so), ?_, (h.rx.eqM he (Cpy.rf no)).mono (by omega)⟩
  unfold f_law_7
  rw [ga1 hi hL, ga2 hi hL, o1, ebnd2, ga1 hi hL, ga2 hi hL, o2, ebnd2, thr, ebnd, if_pos hk]
  by_cases q : k = 0
  · rw [if_pos q, go0, hp q, if_pos ((cmp0 _ _).mpr rfl)]
  · rw [if_neg q]
theorem law_8 (h : RX D x inp ou ru no rd pa M so) (hi : i + 5 < L) (hL : L ≤ 3072) (hn : 13000 < n) (hD : 2100 ≤ D) (hD2 : D ≤ 100000) : ∃ st, f_law_8 n L xs (nI i) sv x inp ou ru no fo rd rr pa M p3 so = some st ∧ RLw (D + 99) st := by
  obtain ⟨P, NP, E, Bs, F, Pt, Ap, T, LC, CC, FC, h⟩ := h
  have h : RXx P NP E Bs F Pt Ap T LC CC FC D x inp ou ru no rd pa M so := h
  obtain ⟨p, k, M', b, o1, o2, he, hk, hp⟩ := lk_loan (n := n) (sv := sv) (x := x) (p3 := p3) h.1 h.2.2.1 (by omega) (xs (i + 1)) (xs (i + 2))
  refine ⟨(x, inp, ou, ru, no, fo, rd, rr, pa, M', p, so), ?_, (h.rx.eqM he (Cpy.rf no)).mono (by omega)⟩
  unfold f_law_8
  rw [ga1 hi hL, ga2 hi hL, o1, ebnd2, ga1 hi hL, ga2 hi hL, o2, ebnd2, thr, ebnd, if_pos hk]
  by_cases q : k = 0
  · rw [if_pos q, go0, hp q, if_pos ((cmp0 _ _).mpr rfl)]
  · rw [if_neg q]
theorem law_9 (h : RX D x inp ou ru no rd pa M so) (hi : i + 5 < L) (hL : L ≤ 3072) (hn : 13000 < n) (hD : 2100 ≤ D) (hD2 : D ≤ 100000) : ∃ st, f_law_9 n L xs (nI i) sv x inp ou ru no fo rd rr pa M p3 so = some st ∧ RLw (D + 99) st := by
  obtain ⟨P, NP, E, Bs, F, Pt, Ap, T, LC, CC, FC, h⟩ := h
  have h : RXx P NP E Bs F Pt Ap T LC CC FC D x inp ou ru no rd pa M so := h
  obtain ⟨p, k, M', b, o1, o2, he, hk, hp⟩ := lk_page (n := n) (sv := sv) (x := x) (p3 := p3) h.1 h.2.2.1  (xs (i + 1))
  refine ⟨(x, inp, ou, ru, no, fo, rd, rr, pa, M', p, so), ?_, (h.rx.eqM he (Cpy.rf no)).mono (by omega)⟩
  unfold f_law_9
  rw [ga1 hi hL, o1, ebnd2, ga1 hi hL, o2, ebnd2, thr, ebnd, if_pos hk]
  by_cases q : k = 0
  · rw [if_pos q, go0, hp q, if_pos ((cmp0 _ _).mpr rfl)]
  · rw [if_neg q]
theorem law_10 (h : RX D x inp ou ru no rd pa M so) (hi : i + 5 < L) (hL : L ≤ 3072) (hn : 13000 < n) (hD : 2100 ≤ D) (hD2 : D ≤ 100000) : ∃ st, f_law_10 n L xs (nI i) sv x inp ou ru no fo rd rr pa M p3 so = some st ∧ RLw (D + 99) st := by
  obtain ⟨P, NP, E, Bs, F, Pt, Ap, T, LC, CC, FC, h⟩ := h
  have h : RXx P NP E Bs F Pt Ap T LC CC FC D x inp ou ru no rd pa M so := h
  obtain ⟨p, k, M', b, o1, o2, he, hk, hp⟩ := lk_pageOf (n := n) (sv := sv) (x := x) (p3 := p3) h.1 h.2.2.1 (by omega) (xs (i + 1)) (xs (i + 2))
  refine ⟨(x, inp, ou, ru, no, fo, rd, rr, pa, M', p, so), ?_, (h.rx.eqM he (Cpy.rf no)).mono (by omega)⟩
  unfold f_law_10
  rw [ga1 hi hL, ga2 hi hL, o1, ebnd2, ga1 hi hL, ga2 hi hL, o2, ebnd2, thr, ebnd, if_pos hk]
  by_cases q : k = 0
  · rw [if_pos q, go0, hp q, if_pos ((cmp0 _ _).mpr rfl)]
  · rw [if_neg q]
theorem law_11 (h : RX D x inp ou ru no rd pa M so) (hi : i + 5 < L) (hL : L ≤ 3072) (hn : 13000 < n) (hD : 2100 ≤ D) (hD2 : D ≤ 100000) : ∃ st, f_law_11 n L xs (nI i) sv x inp ou ru no fo rd rr pa M p3 so = some st ∧ RLw (D + 99) st := by
  obtain ⟨P, NP, E, Bs, F, Pt, Ap, T, LC, CC, FC, h⟩ := h
  have h : RXx P NP E Bs F Pt Ap T LC CC FC D x inp ou ru no rd pa M so := h
  obtain ⟨p, k, M', b, o1, o2, he, hk, hp⟩ := lk_pieces (n := n) (sv := sv) (x := x) (p3 := p3) h.1 h.2.2.1 (by omega) (xs (i + 1))
  refine ⟨(x, inp, ou, ru, no, fo, rd, rr, pa, M', p, so), ?_, (h.rx.eqM he (Cpy.rf no)).mono (by omega)⟩
  unfold f_law_11
  rw [ga1 hi hL, o1, ebnd2, ga1 hi hL, o2, ebnd2, thr, ebnd, if_pos hk]
  by_cases q : k = 0
  · rw [if_pos q, go0, hp q, if_pos ((cmp0 _ _).mpr rfl)]
  · rw [if_neg q]
theorem law_12 (h : RX D x inp ou ru no rd pa M so) (hi : i + 5 < L) (hL : L ≤ 3072) (hn : 13000 < n) (hD : 2100 ≤ D) (hD2 : D ≤ 100000) : ∃ st, f_law_12 n L xs (nI i) sv x inp ou ru no fo rd rr pa M p3 so = some st ∧ RLw (D + 99) st := by
  obtain ⟨P, NP, E, Bs, F, Pt, Ap, T, LC, CC, FC, h⟩ := h
  have h : RXx P NP E Bs F Pt Ap T LC CC FC D x inp ou ru no rd pa M so := h
  obtain ⟨r, M', o1, o2, he⟩ := lq_longestFree (n := n) (sv := sv) (x := x) h.1 h.2.2.1 (by omega) 
  refine ⟨(x, inp, ou, ru, no, fo, rd, rr, pa, M', p3, so), ?_, (h.rx.eqM he (Cpy.rf no)).mono (by omega)⟩
  unfold f_law_12
  rw [o1, ebnd, o2, ebnd2, if_pos rfl]
theorem law_13 (h : RX D x inp ou ru no rd pa M so) (hi : i + 5 < L) (hL : L ≤ 3072) (hn : 13000 < n) (hD : 2100 ≤ D) (hD2 : D ≤ 100000) : ∃ st, f_law_13 n L xs (nI i) sv x inp ou ru no fo rd rr pa M p3 so = some st ∧ RLw (D + 99) st := by
  obtain ⟨P, NP, E, Bs, F, Pt, Ap, T, LC, CC, FC, h⟩ := h
  have h : RXx P NP E Bs F Pt Ap T LC CC FC D x inp ou ru no rd pa M so := h
  obtain ⟨p, k, M', b, o1, o2, he, hk, hp⟩ := lk_claim (n := n) (sv := sv) (x := x) (p3 := p3) h.1 h.2.2.1  (xs (i + 1)) (xs (i + 2))
  refine ⟨(x, inp, ou, ru, no, fo, rd, rr, pa, M', p, so), ?_, (h.rx.eqM he (Cpy.rf no)).mono (by omega)⟩
  unfold f_law_13
  rw [ga1 hi hL, ga2 hi hL, o1, ebnd2, ga1 hi hL, ga2 hi hL, o2, ebnd2, thr, ebnd, if_pos hk]
  by_cases q : k = 0
  · rw [if_pos q, go0, hp q, if_pos ((cmp0 _ _).mpr rfl)]
  · rw [if_neg q]
theorem law_14 (h : RX D x inp ou ru no rd pa M so) (hi : i + 5 < L) (hL : L ≤ 3072) (hn : 13000 < n) (hD : 2100 ≤ D) (hD2 : D ≤ 100000) : ∃ st, f_law_14 n L xs (nI i) sv x inp ou ru no fo rd rr pa M p3 so = some st ∧ RLw (D + 99) st := by
  obtain ⟨P, NP, E, Bs, F, Pt, Ap, T, LC, CC, FC, h⟩ := h
  have h : RXx P NP E Bs F Pt Ap T LC CC FC D x inp ou ru no rd pa M so := h
  obtain ⟨no', p, k, M', b, o1, o2, he, hc, hk, hp⟩ := lk_waiting (n := n) (sv := sv) (x := x) (p3 := p3) h.1 h.2.2.1 (by omega) (xs (i + 1))
  refine ⟨(x, inp, ou, ru, no', fo, rd, rr, pa, M', p, so), ?_, (h.rx.eqM he hc).mono (by omega)⟩
  unfold f_law_14
  rw [ga1 hi hL, o1, ebnd3, ga1 hi hL, o2, ebnd2, thr, ebnd, if_pos hk]
  by_cases q : k = 0
  · rw [if_pos q, go0, hp q, if_pos ((cmp0 _ _).mpr rfl)]
  · rw [if_neg q]
theorem law_15 (h : RX D x inp ou ru no rd pa M so) (hi : i + 5 < L) (hL : L ≤ 3072) (hn : 13000 < n) (hD : 2100 ≤ D) (hD2 : D ≤ 100000) : ∃ st, f_law_15 n L xs (nI i) sv x inp ou ru no fo rd rr pa M p3 so = some st ∧ RLw (D + 99) st := by
  obtain ⟨P, NP, E, Bs, F, Pt, Ap, T, LC, CC, FC, h⟩ := h
  have h : RXx P NP E Bs F Pt Ap T LC CC FC D x inp ou ru no rd pa M so := h
  obtain ⟨p, k, M', b, o1, o2, he, hk, hp⟩ := lk_fine (n := n) (sv := sv) (x := x) (p3 := p3) h.1 h.2.2.1  (xs (i + 1)) (xs (i + 2))
  refine ⟨(x, inp, ou, ru, no, fo, rd, rr, pa, M', p, so), ?_, (h.rx.eqM he (Cpy.rf no)).mono (by omega)⟩
  unfold f_law_15
  rw [ga1 hi hL, ga2 hi hL, o1, ebnd2, ga1 hi hL, ga2 hi hL, o2, ebnd2, thr, ebnd, if_pos hk]
  by_cases q : k = 0
  · rw [if_pos q, go0, hp q, if_pos ((cmp0 _ _).mpr rfl)]
  · rw [if_neg q]
end CALLS
