/-! one act of the law -/
/-- a court beside its row, and the courts kept, within a time -/
def G50 (P NP Tb : Nat) (no : OS) (pa : PS) (M : OS) : Prop := ∃ T LC CC FC nx k, T ≤ Tb ∧ RR P NP 2100 T LC CC FC no (M.2.1 9) ∧ Inv P NP CC LC FC (M.2.1 9) ∧ PS0 nx k pa
section ACT
variable {P NP E Bs F Pt Ap n L Tb : Nat} {no ru M x : OS} {sv : Value} {pa : PS} {xs : Nat → Int32}
theorem ix4 (a j : Nat) : (4 : Int32) * nI a + nI j = nI (4 * a + j) := by
  rw [show (4 : Int32) = nI 4 from rfl, pk_mul, nI_add]
theorem ix40 (a : Nat) : (4 : Int32) * nI a = nI (4 * a) := by
  rw [show (4 : Int32) = nI 4 from rfl, pk_mul]
theorem G50.mono {Tb2 : Nat} (h : G50 P NP Tb no pa M) (ht : Tb ≤ Tb2) : G50 P NP Tb2 no pa M := by
  obtain ⟨T, LC, CC, FC, nx, k, a, b⟩ := h
  exact ⟨T, LC, CC, FC, nx, k, by omega, b⟩
/-- what an act leaves -/
def Act9 (P NP Tb E Bs F Pt Ap : Nat) (ru : OS) (o : Option (OS × PS × Int32)) : Prop := ∃ no' pa' r M', o = some (no', pa', r) ∧ ¬ r < 0 ∧ Ru P NP E Bs F Pt Ap ru M' ∧ G50 P NP (Tb + 12) no' pa' M'
theorem act_ask (hU : Ru P NP E Bs F Pt Ap ru M) (hg : G50 P NP Tb no pa M) (hP : 1 ≤ NP) (hn : 200 < n) (hL : L ≤ 260) {a : Nat} (ha : a ≤ 100) : Act9 P NP Tb E Bs F Pt Ap ru (j_L_act_48 n L xs sv x ru (nI a) (nI P) (nI NP) no pa) := by
  obtain ⟨T, LC, CC, FC, nx, k, g1, h, hI, hp⟩ := hg
  have h60 := h.1.C60
  have h64 := h.1.P64
  have hP4 : 4 ≤ P := hU.2.2.1
  have hNP : NP ≤ 8 := hU.2.2.2.2.1
  unfold j_L_act_48
  rw [q_c13 h, ebnd]
  by_cases c : 60 ≤ CC
  · rw [if_pos (show (60 : Int32) ≤ nI CC from nI_le (a := 60) (b := CC) c (by omega))]
    exact ⟨no, pa, 0, M, rfl, by decide, hU, T, LC, CC, FC, nx, k, by omega, h, hI, hp⟩
  · obtain ⟨p, p1, p2, dp⟩ := draw_ok (n := n) (L := L) (xs := xs) (a := 4 * a + 1) (lo := 0) (hi := NP - 1) (by omega) hL (by omega) (by omega)
    obtain ⟨g, g2, g3, dg⟩ := draw_ok (n := n) (L := L) (xs := xs) (a := 4 * a + 2) (lo := 1) (hi := P) (by omega) hL (by omega) (by omega)
    obtain ⟨t, t1, t2, dt⟩ := draw_ok (n := n) (L := L) (xs := xs) (a := 4 * a + 3) (lo := 1) (hi := 30) (by omega) hL (by omega) (by omega)
    have dp' : f_L_draw n L xs ((4 : Int32) * nI a + (1 : Int32)) (0 : Int32) (nI NP - (1 : Int32)) = some (nI p) := by
      rw [show nI NP - (1 : Int32) = nI (NP - 1) from pk_sub (a := NP) (b := 1) hP]
      rw [show (4 : Int32) * nI a + (1 : Int32) = nI (4 * a + 1) from ix4 a 1]
      exact dp
    have dg' : f_L_draw n L xs ((4 : Int32) * nI a + (2 : Int32)) (1 : Int32) (nI P) = some (nI g) := by
      rw [show (4 : Int32) * nI a + (2 : Int32) = nI (4 * a + 2) from ix4 a 2]
      exact dg
    have dt' : f_L_draw n L xs ((4 : Int32) * nI a + (3 : Int32)) (1 : Int32) (30 : Int32) = some (nI t) := by
      rw [show (4 : Int32) * nI a + (3 : Int32) = nI (4 * a + 3) from ix4 a 3]
      exact dt
    obtain ⟨pa', k1, k2, k3, k4⟩ := keep_ok (n := n) hp no
    have ha : f_X8_ask n sv x ru no pa (nI p) (nI g) (nI t) = some (askC no CC (nI p) (nI g) (nI t) (no.1 0), pa', nI CC, 0) := by
      have v1g : v1 (nI g) P = true := by
        unfold v1
        rw [decide_eq_true (show (1 : Int32) ≤ nI g from nI_le (a := 1) (b := g) g2 (by omega)), decide_eq_true (nI_le g3 (by omega))]
        rfl
      have v1t : v1 (nI t) 99 = true := by
        unfold v1
        rw [decide_eq_true (show (1 : Int32) ≤ nI t from nI_le (a := 1) (b := t) t1 (by omega)), decide_eq_true (nI_le (show t ≤ 99 by omega) (by omega))]
        rfl
      unfold f_X8_ask
      rw [c_needProcess hU, ebnd, vb_in (show p < NP by omega) (by omega), if_pos rfl, if_pos rfl, hU.1.1, show (99 : Int32) = nI 99 from rfl, nd1, nd1l, v1g, if_pos rfl, v1t, if_pos rfl, h.1.claims, if_pos (show nI CC < (60 : Int32) from nI_lt (a := CC) (b := 60) (by omega) (by decide)), k1, ebnd, c_addClaim (by omega) h.1.claims, ebnd2]
    rw [if_neg (show ¬ (60 : Int32) ≤ nI CC from nI_ge (a := CC) (b := 60) (by omega) (by decide)), dp', ebnd, dg', ebnd, dt', ebnd, ha, ebnd4, if_pos rfl]
    refine ⟨_, _, _, sA M 9 (askM (M.2.1 9) CC (nI p) (nI g) (nI t) (no.1 0)), rfl, nI_pos (by omega), hU, T, LC, CC + 1, FC, _, _, by omega, ?_, ?_, k2⟩
    · rw [sA_get]
      exact h.ask (by omega) (by omega) g2 g3 (by omega) _
    · rw [sA_get]
      exact inv_ask hI h64 (by omega) hNP _ _ _ _
theorem act_back (hU : Ru P NP E Bs F Pt Ap ru M) (hg : G50 P NP Tb no pa M) (hn : 200 < n) {T LC CC FC nx k : Nat} (g1 : T ≤ Tb) (h : RR P NP 2100 T LC CC FC no (M.2.1 9)) (hI : Inv P NP CC LC FC (M.2.1 9)) (hp : PS0 nx k pa) (s0 : Int32) (hs : LC = 0 ∨ ∃ l, l < LC ∧ s0 = nI l) : Act9 P NP Tb E Bs F Pt Ap ru (j_L_act_191 n L xs sv x ru no pa (nI LC) s0) := by
  have h80 := h.1.L80
  have h64 := h.1.P64
  have h60 := h.1.C60
  have hNP : NP ≤ 8 := hU.2.2.2.2.1
  have same : Act9 P NP Tb E Bs F Pt Ap ru (some (no, pa, (0 : Int32))) := ⟨no, pa, 0, M, rfl, by decide, hU, hg.mono (by omega)⟩
  unfold j_L_act_191
  rcases hs with c | ⟨l, hl, rfl⟩
  · rw [if_pos (by rw [c]; rfl)]
    exact same
  · have hle := pc_le (M.2.1 9) P (nI l)
    have L1 : f_X8_loan n sv x no (nI l) (1 : Int32) = some (nI (pc (M.2.1 9) P (nI l)), 0) := q_loan h hl (j := 1) (by omega)
    rw [if_neg (nI_ne0 (by omega) (by omega)), L1, ebnd2, if_pos rfl]
    by_cases c : pc (M.2.1 9) P (nI l) = 0
    · rw [if_pos (by rw [c]; rfl)]
      exact same
    · obtain ⟨pa', k1, k2, k3, k4⟩ := keep_ok (n := n) hp no
      have hR2 := RR.release h hl (many := 1) (by omega)
      obtain ⟨q0, q1, _⟩ := h.1.1.2.2.2.2.1 l hl
      obtain ⟨_, q1', _⟩ := hR2.1.1.2.2.2.2.1 l hl
      have hb : f_X8_giveBack n sv x no pa (nI l) (1 : Int32) = some (relC no l 1, pa', nI (pc (relM (M.2.1 9) P l 1) P (nI l)), 0) := by
        have v1g : v1 (1 : Int32) (pc (M.2.1 9) P (nI l)) = true := by
          unfold v1
          rw [decide_eq_true (Int32.le_refl _), decide_eq_true (show (1 : Int32) ≤ nI (pc (M.2.1 9) P (nI l)) from nI_le (a := 1) (b := pc (M.2.1 9) P (nI l)) (by omega) (by omega))]
          rfl
        have cr : f_X2_release n no (nI l) (1 : Int32) = some (relC no l 1) := c_release (l := l) (many := 1) (by omega) (by omega) (by omega)
        unfold f_X8_giveBack
        rw [c_needLoan h.1.loans, ebnd, vb_in hl (by omega), if_pos rfl, if_pos rfl, gL1 (by omega), ebnd, q1, nd1, v1g, if_pos rfl, k1, ebnd, cr, ebnd, gL1 (by omega), ebnd, q1']
      rw [if_neg (nI_ne0 (by omega) (by omega)), hb, ebnd4, if_pos rfl]
      have hle2 := pc_le (relM (M.2.1 9) P l 1) P (nI l)
      refine ⟨_, _, _, sA M 9 (relM (M.2.1 9) P l 1), rfl, nI_pos (by omega), hU, T, LC, CC, FC, _, _, by omega, ?_, ?_, k2⟩
      · rw [sA_get]
        exact hR2
      · rw [sA_get]
        exact inv_rel hI h64 h60 hNP hl (by omega)
theorem act_ok (hU : Ru P NP E Bs F Pt Ap ru M) (hg : G50 P NP Tb no pa M) (hP : 1 ≤ NP) (hn : 2500 < n) (hL : L ≤ 260) (hT : Tb + 12 ≤ 2000) {a : Nat} (ha : a ≤ 100) : Act9 P NP Tb E Bs F Pt Ap ru (f_L_act n L xs sv x ru no pa (nI a) (nI P) (nI NP)) := by
  obtain ⟨v, v1', v2, dv⟩ := draw_ok (n := n) (L := L) (xs := xs) (a := 4 * a) (lo := 0) (hi := 6) (by omega) hL (by omega) (by omega)
  have dv' : f_L_draw n L xs ((4 : Int32) * nI a) (0 : Int32) (6 : Int32) = some (nI v) := by
    rw [ix40]
    exact dv
  have hg0 := hg
  obtain ⟨T, LC, CC, FC, nx, k, g1, h, hI, hp⟩ := hg
  have h60 := h.1.C60
  have h64 := h.1.P64
  have h80 := h.1.L80
  have hNP : NP ≤ 8 := hU.2.2.2.2.1
  unfold f_L_act
  rw [dv', ebnd, nI_toInt (by omega)]
  have hv : v = 0 ∨ v = 1 ∨ v = 2 ∨ v = 3 ∨ v = 4 ∨ 4 < v := by omega
  rcases hv with rfl | rfl | rfl | rfl | rfl | hv
  · rw [if_neg (by omega), if_pos (show nI 0 = (0 : Int32) from rfl)]
    exact act_ask hU hg0 hP (by omega) hL ha
  · rw [if_neg (by omega), if_neg (show ¬ nI 1 = (0 : Int32) from by decide), if_pos (show nI 1 = (1 : Int32) from rfl)]
    exact act_ask hU hg0 hP (by omega) hL ha
  · rw [if_neg (by omega), if_neg (show ¬ nI 2 = (0 : Int32) from by decide), if_neg (show ¬ nI 2 = (1 : Int32) from by decide), if_pos (show nI 2 = (2 : Int32) from rfl)]
    obtain ⟨p, p1, p2, dp⟩ := draw_ok (n := n) (L := L) (xs := xs) (a := 4 * a + 1) (lo := 0) (hi := NP - 1) (by omega) hL (by omega) (by omega)
    obtain ⟨w, w1, w2, dw⟩ := draw_ok (n := n) (L := L) (xs := xs) (a := 4 * a + 2) (lo := 0) (hi := 20) (by omega) hL (by omega) (by omega)
    have dp' : f_L_draw n L xs ((4 : Int32) * nI a + (1 : Int32)) (0 : Int32) (nI NP - (1 : Int32)) = some (nI p) := by
      rw [show nI NP - (1 : Int32) = nI (NP - 1) from pk_sub (a := NP) (b := 1) hP]
      rw [show (4 : Int32) * nI a + (1 : Int32) = nI (4 * a + 1) from ix4 a 1]
      exact dp
    have dw' : f_L_draw n L xs ((4 : Int32) * nI a + (2 : Int32)) (0 : Int32) (20 : Int32) = some (nI w) := by
      rw [show (4 : Int32) * nI a + (2 : Int32) = nI (4 * a + 2) from ix4 a 2]
      exact dw
    obtain ⟨pa', k1, k2, k3, k4⟩ := keep_ok (n := n) hp no
    obtain ⟨u1, u2, u3, u4, u5⟩ := h.1.1.2.2.2.1 p (by omega)
    obtain ⟨s, s1, s2⟩ := hI.2.2.2.2.2 p (by omega)
    have hst : f_X8_stall n sv x ru no pa (nI p) (nI w) = some (sA no 11 (upd (no.2.1 11) (5 * p + 2) (nI w)), pa', nI s, 0) := by
      unfold f_X8_stall
      rw [c_needProcess hU, ebnd, vb_in (show p < NP by omega) (by omega), if_pos rfl, if_pos rfl, show (99 : Int32) = nI 99 from rfl, nd3e (nI w) 99 (by decide), vb_in (by omega) (by decide), if_pos rfl, k1, ebnd, gP2 (by omega), ebnd, sP2 (by omega), ebnd, eLet, u3, s2]
    rw [dp', ebnd, dw', ebnd, hst, ebnd4, if_pos rfl]
    refine ⟨_, _, _, sA M 9 (upd (M.2.1 9) (10 + 6 * p + 2) (nI w)), rfl, nI_pos (by omega), hU, T, LC, CC, FC, _, _, by omega, ?_, ?_, k2⟩
    · rw [sA_get]
      exact h.upd0 (h.1.setP (by omega) (jc := 2) (jm := 2) (by omega) (nI w) (fun z => absurd z (by omega))) rfl rfl (upd_n (by omega)) (upd_n (by omega)) rfl
    · rw [sA_get]
      exact inv_stall hI h64 h60 hNP (by omega) (by omega)
  · rw [if_neg (by omega), if_neg (show ¬ nI 3 = (0 : Int32) from by decide), if_neg (show ¬ nI 3 = (1 : Int32) from by decide), if_neg (show ¬ nI 3 = (2 : Int32) from by decide), if_pos (show nI 3 = (3 : Int32) from rfl)]
    obtain ⟨o, o1, o2, d0⟩ := draw_ok (n := n) (L := L) (xs := xs) (a := 4 * a + 1) (lo := 0) (hi := 2) (by omega) hL (by omega) (by omega)
    have d0' : f_L_draw n L xs ((4 : Int32) * nI a + (1 : Int32)) (0 : Int32) (2 : Int32) = some (nI o) := by
      rw [show (4 : Int32) * nI a + (1 : Int32) = nI (4 * a + 1) from ix4 a 1]
      exact d0
    obtain ⟨pa', k1, k2, k3, k4⟩ := keep_ok (n := n) hp no
    obtain ⟨z1, z2, z3⟩ := order_ok (n := n) h hI hU o2 k1
    obtain ⟨o', o3, o4⟩ := h.1.2.1.2.2.1
    rw [d0', ebnd, z1, ebnd4, if_pos rfl]
    refine ⟨_, _, _, sA M 9 (upd (M.2.1 9) 1 (nI o)), rfl, ?_, hU, T, LC, CC, FC, _, _, by omega, ?_, ?_, k2⟩
    · rw [show no.1 1 = nI o' from h.1.1.1.2.1.trans o4]
      exact nI_pos (by omega)
    · rw [sA_get]
      exact z2
    · rw [sA_get]
      exact z3
  · rw [if_neg (by omega), if_neg (show ¬ nI 4 = (0 : Int32) from by decide), if_neg (show ¬ nI 4 = (1 : Int32) from by decide), if_neg (show ¬ nI 4 = (2 : Int32) from by decide), if_neg (show ¬ nI 4 = (3 : Int32) from by decide), q_c10 h, ebnd]
    by_cases c : LC = 0
    · rw [if_pos (by rw [c]; rfl)]
      exact act_back hU hg0 (by omega) g1 h hI hp _ (Or.inl c)
    · obtain ⟨l, l1, l2, dl⟩ := draw_ok (n := n) (L := L) (xs := xs) (a := 4 * a + 1) (lo := 0) (hi := LC - 1) (by omega) hL (by omega) (by omega)
      have dl' : f_L_draw n L xs ((4 : Int32) * nI a + (1 : Int32)) (0 : Int32) (nI LC - (1 : Int32)) = some (nI l) := by
        rw [show nI LC - (1 : Int32) = nI (LC - 1) from pk_sub (a := LC) (b := 1) (by omega)]
        rw [show (4 : Int32) * nI a + (1 : Int32) = nI (4 * a + 1) from ix4 a 1]
        exact dl
      rw [if_neg (nI_ne0 (by omega) (by omega)), dl', ebnd]
      exact act_back hU hg0 (by omega) g1 h hI hp _ (Or.inr ⟨l, by omega, rfl⟩)
  · rw [if_pos (Or.inr (by omega))]
    obtain ⟨t, t1, t2, dt⟩ := draw_ok (n := n) (L := L) (xs := xs) (a := 4 * a + 1) (lo := 1) (hi := 12) (by omega) hL (by omega) (by omega)
    have dt' : f_L_draw n L xs ((4 : Int32) * nI a + (1 : Int32)) (1 : Int32) (12 : Int32) = some (nI t) := by
      rw [show (4 : Int32) * nI a + (1 : Int32) = nI (4 * a + 1) from ix4 a 1]
      exact dt
    obtain ⟨pa', k1, k2, k3, k4⟩ := keep_ok (n := n) hp no
    obtain ⟨c', M', LC', FC', z1, z2, z3, z4, z5, z6, z7⟩ := go_ok (n := n) hU h hI (by omega) (t := t) (by omega)
    have hr := run_ok hU h hn t1 (by omega) (by omega) k1 z1 sv x
    have hle : stc (M'.2.1 9) 1 CC ≤ CC := fb_ct_le _ _
    rw [dt', ebnd, hr, ebnd4, if_pos rfl]
    exact ⟨_, _, _, M', rfl, nI_pos (by omega), z3, T + t, LC', CC, FC', _, _, by omega, z4, z5, k2⟩
/-- the law's acts, one after another: none breaks anything -/
theorem acts_ok {many : Nat} (hU : Ru P NP E Bs F Pt Ap ru M) (hg : G50 P NP 0 no pa M) (hP : 1 ≤ NP) (hn : 2500 < n) (hL : L ≤ 260) : ∀ i, i ≤ 22 → ∃ y, actsF n L xs sv x ru (nI P) (nI NP) (no, pa) i = some y ∧ ∃ M', Ru P NP E Bs F Pt Ap ru M' ∧ G50 P NP (12 * i) y.1 y.2 M'
  | 0, _ => ⟨(no, pa), rfl, M, hU, hg⟩
  | i + 1, hi => by
    obtain ⟨⟨no1, pa1⟩, y1, M1, hU1, hg1⟩ := acts_ok (many := many) hU hg hP hn hL i (by omega)
    obtain ⟨no2, pa2, r, M2, a1, a2, hU2, T, LC, CC, FC, nx, k, g1, h, hI, hp⟩ := act_ok (n := n) (L := L) (xs := xs) (sv := sv) (x := x) hU1 hg1 hP hn hL (by omega) (a := i + 3) (by omega)
    obtain ⟨no3, s1, s2⟩ := isSound (n := n) h hU2 hI (by omega)
    refine ⟨(no3, pa2), ?_, M2, hU2, T, LC, CC, FC, nx, k, by omega, h.cpy s2 fun _ _ => rfl, hI, hp⟩
    show bnd (actsF n L xs sv x ru (nI P) (nI NP) (no, pa) i) (fun y => actF n L xs sv x ru (nI P) (nI NP) i y) = _
    rw [y1, ebnd]
    show bnd3 (f_L_act n L xs sv x ru no1 pa1 (nI (i + 3)) (nI P) (nI NP)) (fun no1 pa1 r => if r < 0 then none else bnd2 (f_L_isSound n sv x ru no1 pa1 (nI P) (nI NP)) (fun no2 z => if z = 0 then none else some (no2, pa1))) = _
    rw [a1, ebnd3, if_neg a2, s1, ebnd2, if_neg (by decide)]
end ACT
