/-! the law behind its acts -/
section LAW9
variable {P NP T LC CC FC E Bs F Pt Ap n nx k L : Nat} {no fo ru M x : OS} {sv : Value} {pa : PS} {xs : Nat → Int32}
theorem law_422 (hU : Ru P NP E Bs F Pt Ap ru M) (h : RR P NP 2100 T LC CC FC no (M.2.1 9)) (hI : Inv P NP CC LC FC (M.2.1 9)) (hp : PS0 nx k pa) (hn : 2500 < n) {t : Nat} (ht1 : 1 ≤ t) (ht2 : t ≤ 500) (hT : T + t ≤ 2000) {M' : OS} (hM : mT n t M = some M') {b : Nat} (hb : b ≤ 2) (hbest : ∀ v, v ≤ 2 → ordS n t CC M v ≤ ordS n t CC M b) (fo : OS) : ∃ res, j_L_law_422 n L xs sv x ru (nI P) (nI NP) no fo pa (nI t) (nI b) (nI (stc (M'.2.1 9) 1 CC - stc (M.2.1 9) 1 CC)) = some res ∧ ∃ M9, Ru P NP E Bs F Pt Ap ru M9 ∧ G50 P NP (T + t) res.1 res.2.2 M9 := by
  have h60 := h.1.C60
  obtain ⟨pa3, k1, k2, k3, k4⟩ := keep_ok (n := n) hp no
  obtain ⟨z1, z2, z3⟩ := order_ok (n := n) h hI hU hb k1
  obtain ⟨o, o1, o2⟩ := h.1.2.1.2.2.1
  have hU2 : Ru P NP E Bs F Pt Ap ru (sA M 9 (upd (M.2.1 9) 1 (nI b))) := hU
  have g2 : RR P NP 2100 T LC CC FC (sI no 1 (nI b)) ((sA M 9 (upd (M.2.1 9) 1 (nI b))).2.1 9) := by
    rw [sA_get]
    exact z2
  have g3 : Inv P NP CC LC FC ((sA M 9 (upd (M.2.1 9) 1 (nI b))).2.1 9) := by
    rw [sA_get]
    exact z3
  obtain ⟨c5, M5, LC5, FC5, q1, q2, q3, q4, q5, q6, q7⟩ := go_ok (n := n) hU2 g2 g3 (by omega) (t := t) hT
  obtain ⟨pa4, r1, r2, r3, r4⟩ := keep_ok (n := n) k2 (sI no 1 (nI b))
  have hr := run_ok hU2 g2 hn ht1 ht2 hT r1 q1 sv x
  have eb : ordS n t CC M b = stc (M5.2.1 9) 1 CC - stc ((sA M 9 (upd (M.2.1 9) 1 (nI b))).2.1 9) 1 CC := by
    unfold ordS
    rw [q2, sA_get, stc_order]
  have eo : ordS n t CC M o = stc (M'.2.1 9) 1 CC - stc (M.2.1 9) 1 CC := by
    unfold ordS
    rw [upd_self o2, sA_self, hM]
  have hle := hbest o o1
  have hle2 := ordS_le n t CC M b
  unfold j_L_law_422
  rw [z1, ebnd4, if_pos rfl, hr, ebnd4, if_pos rfl, ← eo, ← eb, if_neg (nI_nlt hle (by omega)), show no.1 1 = nI o from h.1.1.1.2.1.trans o2, if_pos (show (0 : Int32) ≤ nI o from Int32.not_lt.mp (nI_pos (by omega)))]
  exact ⟨_, rfl, M5, q3, T + t, LC5, CC, FC5, _, _, Nat.le_refl _, q4, q5, r2⟩
theorem law_379 (hU : Ru P NP E Bs F Pt Ap ru M) (h : RR P NP 2100 T LC CC FC no (M.2.1 9)) (hI : Inv P NP CC LC FC (M.2.1 9)) (hnx : nx < 8) (hk : k ≤ 8) {pa' : PS} (hp : PS0 ((nx + 1) % 8) (min (k + 1) 8) pa') (hlt : nx < pa'.2.1) (hcp : Cpy no (pa'.2.2 nx)) (hn : 2500 < n) {t : Nat} (ht1 : 1 ≤ t) (ht2 : t ≤ 500) (hT : T + t ≤ 2000) {M' : OS} (hM : mT n t M = some M') {b : Nat} (hb : b ≤ 2) (hbest : ∀ v, v ≤ 2 → ordS n t CC M v ≤ ordS n t CC M b) (c fo : OS) : ∃ res, j_L_law_379 n L xs sv x ru (nI P) (nI NP) c fo pa' (nI t) (nI T) (nI (stc (M.2.1 9) 1 CC)) (nI k) (nI b) (nI (stc (M'.2.1 9) 1 CC - stc (M.2.1 9) 1 CC)) = some res ∧ ∃ M9, Ru P NP E Bs F Pt Ap ru M9 ∧ G50 P NP (T + t) res.1 res.2.2 M9 := by
  obtain ⟨k9, e9⟩ : ∃ k9, min (k + 1) 8 = k9 + 1 := ⟨min (k + 1) 8 - 1, by omega⟩
  rw [e9] at hp
  obtain ⟨no2, pa2, u1, u2, u3⟩ := undo_ok (n := n) hp hnx hlt c
  have h2 : RR P NP 2100 T LC CC FC no2 (M.2.1 9) := (h.cpy hcp fun _ _ => rfl).cpy u3 fun _ _ => rfl
  have fin := law_422 (sv := sv) (x := x) (L := L) (xs := xs) hU h2 hI u2 hn ht1 ht2 hT hM hb hbest fo
  unfold j_L_law_379
  rw [u1, ebnd4, if_pos rfl, q_c2 h2, ebnd, if_pos rfl, q_c15 h2 (by omega), ebnd, if_pos rfl]
  by_cases c8 : 8 ≤ k
  · rw [if_pos (show (8 : Int32) ≤ nI k from nI_le (a := 8) (b := k) c8 (by omega))]
    exact fin
  · rw [if_neg (show ¬ (8 : Int32) ≤ nI k from nI_ge (a := k) (b := 8) (by omega) (by decide)), if_pos (congrArg nI (show k9 = k by omega))]
    exact fin
theorem law_351 {c fo : OS} {T2 LC2 FC2 : Nat} {pa' : PS} {M2 : OS} (h : RR P NP 2100 T2 LC2 CC FC2 c (M2.2.1 9)) (hI : Inv P NP CC LC2 FC2 (M2.2.1 9)) {q t : Nat} {w6 w8 w9 w13 w16 w17 r : Int32} (hr : r = -1 ∨ (q < CC ∧ w13 = nI q ∧ ∃ i, r = nI i ∧ i ≤ 500 ∧ ∃ LC', MtA q (T + i) LC' (M2.2.1 9))) : j_L_law_351 n L xs sv x ru (nI P) (nI NP) c fo pa' w6 (nI T) w8 w9 w13 r w16 w17 = j_L_law_379 n L xs sv x ru (nI P) (nI NP) c fo pa' w6 (nI T) w8 w9 w16 w17 := by
  have h80 := h.1.L80
  unfold j_L_law_351
  rcases hr with e | ⟨hq, e13, i, e, hi, LC', m1, l, b1, b2, b3, b4⟩
  · rw [if_pos e]
  · subst e
    subst e13
    have hl : l < LC2 := by
      rcases hI.2.2.2.2.1 q hq with ⟨_, l2, c1, c2, _⟩ | ⟨a1, _⟩
      · rw [nI_inj (by omega) (by omega) (b3.symm.trans c2)]
        exact c1
      · exact absurd m1 a1
    have c5 : f_X8_claim n sv x c (nI q) (5 : Int32) = some (nI l, 0) := (q_claim h hq (j := 5) (by omega)).trans (by rw [b3])
    have l3 : f_X8_loan n sv x c (nI l) (3 : Int32) = some (nI (T + i), 0) := (q_loan h hl (j := 3) (by omega)).trans (by show some (M2.2.1 9 (58 + 6 * l + 2), 0) = _; rw [b4])
    rw [if_neg (nI_m1 i (by omega)), c5, ebnd2, if_pos rfl, l3, ebnd2, if_pos rfl, if_pos (nI_add T i).symm]
theorem law_ok (hU : Ru P NP E Bs F Pt Ap ru M) (h : RR P NP 2100 T LC CC FC no (M.2.1 9)) (hI : Inv P NP CC LC FC (M.2.1 9)) (hp : PS0 nx k pa) (hn : 2500 < n) (hT : T + 40 ≤ 2000) (hP : 1 ≤ NP) (hL : L ≤ 260) : ∃ res, f_L_law n L xs sv x ru no fo pa (nI P) (nI NP) = some res ∧ ∃ M9, Ru P NP E Bs F Pt Ap ru M9 ∧ G50 P NP (T + 40) res.1 res.2.2 M9 := by
  have hNP : NP ≤ 8 := hU.2.2.2.2.1
  have h60 := h.1.C60
  obtain ⟨p, p1, p2, dp⟩ := draw_ok (n := n) (L := L) (xs := xs) (a := 9) (lo := 0) (hi := NP - 1) (by omega) hL (by omega) (by omega)
  obtain ⟨t, t1, t2, dt⟩ := draw_ok (n := n) (L := L) (xs := xs) (a := 10) (lo := 1) (hi := 40) (by omega) hL (by omega) (by omega)
  have dp' : f_L_draw n L xs (9 : Int32) (0 : Int32) (nI NP - (1 : Int32)) = some (nI p) := by
    rw [show nI NP - (1 : Int32) = nI (NP - 1) from pk_sub (a := NP) (b := 1) hP]
    exact dp
  have dt' : f_L_draw n L xs (10 : Int32) (1 : Int32) (40 : Int32) = some (nI t) := dt
  obtain ⟨c', M', LC', FC', z1, z2, z3, z4, z5, z6, z7⟩ := go_ok (n := n) hU h hI (by omega) (t := t) (by omega)
  obtain ⟨pa', k1, k2, k3, k4⟩ := keep_ok (n := n) hp no
  have hr := run_ok hU h hn t1 (by omega) (by omega) k1 z1 sv x
  obtain ⟨c9, s1, s2⟩ := isSound (n := n) z4 z3 z5 (by omega)
  have h9 := z4.cpy s2 fun _ _ => rfl
  have P0 := fun fo => (processIn_ok (sv := sv) (x := x) (fo := fo) hU h hn t1 (by omega) (by omega) z2 z4 (show p < NP by omega)).1
  have P1 := fun fo => (processIn_ok (sv := sv) (x := x) (fo := fo) hU h hn t1 (by omega) (by omega) z2 z4 (show p < NP by omega)).2.1
  have P2 := fun fo => (processIn_ok (sv := sv) (x := x) (fo := fo) hU h hn t1 (by omega) (by omega) z2 z4 (show p < NP by omega)).2.2
  have q0 : f_X8_process n sv x ru c' (nI p) (0 : Int32) = some (prv (M'.2.1 9) P LC' CC p 0, 0) := q_process z4 z3 (by omega) (show p < NP by omega) (j := 0) (by omega)
  have q1 : f_X8_process n sv x ru c' (nI p) (1 : Int32) = some (prv (M'.2.1 9) P LC' CC p 1, 0) := q_process z4 z3 (by omega) (show p < NP by omega) (j := 1) (by omega)
  have q3 : f_X8_process n sv x ru c' (nI p) (3 : Int32) = some (prv (M'.2.1 9) P LC' CC p 3, 0) := q_process z4 z3 (by omega) (show p < NP by omega) (j := 3) (by omega)
  have hle' : stc (M'.2.1 9) 1 CC ≤ CC := fb_ct_le _ _
  have wide : ∀ (o : Option (OS × OS × PS)), (∃ res, o = some res ∧ ∃ M9, Ru P NP E Bs F Pt Ap ru M9 ∧ G50 P NP (T + t) res.1 res.2.2 M9) → ∃ res, o = some res ∧ ∃ M9, Ru P NP E Bs F Pt Ap ru M9 ∧ G50 P NP (T + 40) res.1 res.2.2 M9 := fun o hh => by
    obtain ⟨res, a, M9, b, cc⟩ := hh
    exact ⟨res, a, M9, b, cc.mono (by omega)⟩
  -- from the best order on
  have g224 : ∀ (fo : OS) (w13 r s0 : Int32) (q : Nat), (s0 = 0 → r = -1) → (s0 ≠ 0 → s0 = 1 ∧ q < CC ∧ w13 = nI q ∧ Unt q T t (M'.2.1 9) r) → ∃ res, j_L_law_224 n L xs sv x ru (nI P) (nI NP) no fo pa (nI p) (nI t) (nI T) (nI (stc (M.2.1 9) 1 CC)) (nI k) (prv (M'.2.1 9) P LC' CC p 0) (prv (M'.2.1 9) P LC' CC p 1) (prv (M'.2.1 9) P LC' CC p 3) w13 r s0 = some res ∧ ∃ M9, Ru P NP E Bs F Pt Ap ru M9 ∧ G50 P NP (T + 40) res.1 res.2.2 M9 := fun fo w13 r s0 q h0 h1 => by
    obtain ⟨y, b, b1, b2, b3⟩ := best_ok (n := n) (sv := sv) (x := x) (fo := fo) hU h hn t1 (by omega) (t := t) (by omega)
    have fin : ∀ fo, ∃ res, j_L_law_379 n L xs sv x ru (nI P) (nI NP) c9 fo pa' (nI t) (nI T) (nI (stc (M.2.1 9) 1 CC)) (nI k) (nI b) (nI (stc (M'.2.1 9) 1 CC - stc (M.2.1 9) 1 CC)) = some res ∧ ∃ M9, Ru P NP E Bs F Pt Ap ru M9 ∧ G50 P NP (T + 40) res.1 res.2.2 M9 := fun fo => wide _ (law_379 hU h hI hp.1 hp.2.1 k2 k3 k4 hn t1 (by omega) (by omega) z2 b1 b3 c9 fo)
    unfold j_L_law_224
    rw [b2, ebnd3, if_pos rfl, hr, ebnd4, if_pos rfl, q_c15 z4 (by omega), ebnd, if_pos (by rw [nI_add]; exact congrArg nI (by omega)), q_c2 z4, ebnd, if_pos (nI_add T t).symm, q0, ebnd2, if_pos rfl, if_pos rfl, q1, ebnd2, if_pos rfl, if_pos rfl, q3, ebnd2, if_pos rfl, if_pos rfl, s1, ebnd2, if_neg (by decide)]
    by_cases hs : s0 = 0
    · rw [if_pos hs, law_351 (q := q) (t := t) h9 z5 (Or.inl (h0 hs))]
      exact fin _
    · obtain ⟨e1, hq, e13, hu⟩ := h1 hs
      have c3 : f_X8_claim n sv x c9 w13 (3 : Int32) = some (M'.2.1 9 (602 + 7 * q + 3), 0) := by
        rw [e13]
        exact q_claim h9 hq (j := 3) (by omega)
      rw [if_neg hs]
      rcases hu with ⟨a1, a2⟩ | ⟨i, i1, i2, a1, LC9, a2⟩
      · rw [if_pos a1]
        unfold j_L_law_332
        rw [c3, ebnd2, if_pos rfl, if_neg a2, if_pos rfl, law_351 (q := q) (t := t) h9 z5 (Or.inl a1)]
        exact fin _
      · rw [if_neg (by rw [a1]; exact nI_m1 i (by omega))]
        unfold j_L_law_332
        rw [c3, ebnd2, if_pos rfl, if_pos a2.1, if_pos rfl, law_351 (q := q) (t := t) h9 z5 (Or.inr ⟨hq, e13, i, a1, by omega, LC9, a2⟩)]
        exact fin _
  unfold f_L_law
  obtain ⟨y0, e0⟩ := P0 fo
  obtain ⟨y1, e1⟩ := P1 y0
  obtain ⟨y2, e2⟩ := P2 y1
  rw [dp', ebnd, dt', ebnd, q_c2 h, ebnd, q_c15 h (by omega), ebnd, q_c20, ebnd, hp.2.2.2.1, e0, ebnd3, if_pos rfl, e1, ebnd3, if_pos rfl, e2, ebnd3, if_pos rfl, q_c13 h, ebnd, eLet]
  by_cases c0 : CC = 0
  · have em : nI CC - (1 : Int32) = -1 := by rw [c0]; decide
    rw [em, if_neg (by decide)]
    unfold j_L_law_202
    rw [if_pos (by decide)]
    exact g224 y2 (-1) (-1) 0 0 (fun _ => rfl) (fun z => absurd rfl z)
  · have em : nI CC - (1 : Int32) = nI (CC - 1) := pk_sub (a := CC) (b := 1) (by omega)
    obtain ⟨y3, r, m1, m2, m3⟩ := metIn_ok (n := n) (sv := sv) (x := x) (fo := y2) hU h hn t1 (by omega) (by omega) z2 (show CC - 1 < CC by omega)
    rw [em, if_pos (show (0 : Int32) ≤ nI (CC - 1) from Int32.not_lt.mp (nI_pos (by omega))), m1, ebnd3, if_pos rfl]
    have c3 : f_X8_claim n sv x no (nI (CC - 1)) (3 : Int32) = some ((M.2.1 9) (602 + 7 * (CC - 1) + 3), 0) := q_claim h (show CC - 1 < CC by omega) (j := 3) (by omega)
    unfold j_L_law_202
    rw [if_neg (nI_pos (by omega)), c3, ebnd2, if_pos rfl]
    by_cases cw : (M.2.1 9) (602 + 7 * (CC - 1) + 3) = 0
    · rw [if_pos cw]
      exact g224 y3 (nI (CC - 1)) r 1 (CC - 1) (fun z => absurd z (by decide)) (fun _ => ⟨rfl, by omega, rfl, m2 (wt_iff.mpr cw)⟩)
    · rw [if_neg cw]
      exact g224 y3 (nI (CC - 1)) r 0 0 (fun _ => m3 (by cases w : wt (M.2.1 9) (CC - 1) with | false => rfl | true => exact absurd (wt_iff.mp w) cw)) (fun z => absurd rfl z)
/-- the whole tail of the law -/
theorem tail_ok (hU : Ru P NP E Bs F Pt Ap ru M) {y : OS × PS} (hg : G50 P NP 264 y.1 y.2 M) (hn : 2500 < n) (hP : 1 ≤ NP) (hL : L ≤ 260) : Tail50 n L xs x ru fo (nI P) (nI NP) y := by
  obtain ⟨T0, LC0, CC0, FC0, nx0, k0, g1, h0, hI0, hp0⟩ := hg
  obtain ⟨res, e, M9, hU9, T, LC, CC, FC, nx, k, b1, h, hI, hp⟩ := law_ok (n := n) (L := L) (xs := xs) (sv := .null) (x := x) (fo := fo) hU h0 hI0 hp0 hn (by omega) hP hL
  obtain ⟨c1, c2, c3⟩ := c_copy (n := n) ((none : Option OS).getD zOS) res.1
  obtain ⟨c', M', LC', FC', z1, z2, z3, z4, z5, z6, z7⟩ := go_ok (n := n) hU9 h hI (by omega) (t := 3) (by omega)
  obtain ⟨pa', k1, k2, k3, k4⟩ := keep_ok (n := n) hp res.1
  obtain ⟨d1, d2, d3⟩ := c_copy (n := n) c' c1
  have h' : RR P NP 2100 T LC CC FC d1 (M9.2.1 9) := (h.cpy c3 fun _ _ => rfl).cpy d3 fun _ _ => rfl
  obtain ⟨s1, s2, s3⟩ := isSound (n := n) h' hU9 hI (by omega)
  have hle' : stc (M'.2.1 9) 1 CC ≤ CC := fb_ct_le _ _
  have h60 := h.1.C60
  refine ⟨res, e, sI x 8 1, c1, nI T, ?_, c', pa', nI (stc (M'.2.1 9) 1 CC - stc (M9.2.1 9) 1 CC), fun sv => ?_, nI_pos (by omega), d1, pI pa' 2 0, ?_, fun sv => ?_, s1, 1, fun sv => s2 sv _ _, by decide⟩
  · unfold f_X8_saveState
    rw [c2, ebnd, h.1.time.2.1]
  · exact run_ok hU9 h hn (t := 3) (by omega) (by omega) (by omega) k1 z1 sv _
  · unfold f_X8_restoreState
    rw [show (sI x 8 1).1 8 = (1 : Int32) from (show upd x.1 8 1 8 = (1 : Int32) from upd_s _ _ _), if_neg (by decide)]
    show bnd (f_X2_copyFrom n c' c1) (fun (y : OS) => bnd (f_X3_forget n pa') (fun (p : PS) => some (y, p, y.1 0, 0))) = _
    rw [d2, ebnd]
    unfold f_X3_forget
    rw [eLet, ebnd, h'.1.time.2.1]
  · rw [q_c20]
    rfl
end LAW9
