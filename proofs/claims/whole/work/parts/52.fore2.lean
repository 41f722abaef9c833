/-! the other forecasts -/
section FORE2
variable {P NP D K T LC CC FC E Bs F Pt Ap n : Nat} {c no fo ru M x : OS} {sv : Value} {p3 : Nat → Int64}
theorem lk_freeIn (hU : Ru P NP E Bs F Pt Ap ru M) (hRR : RR P NP D T LC CC FC no (M.2.1 9)) (hn : 2500 < n) (hD : 2100 ≤ D) (hD2 : D ≤ 100000) (v : Int32) : LKf M (f_L_freeIn n sv x ru no fo 1 p3 v) (f_X9_freeIn n M v) := by
  unfold f_L_freeIn f_X8_freeIn f_X9_freeIn
  rw [c_needTicks, ebnd, m_areTicks, ebnd, m_is, ebnd2, ifz]
  cases hw : tkb v with
  | false => exact LKf_no (p3 := p3) (k := 1) rfl (by decide) rfl (EqM.told M 1) rfl
  | true =>
    obtain ⟨t, ht1, ht2, rfl⟩ := tkb_ok hw
    obtain ⟨c', hc1, hc2⟩ := c_copy (n := n) fo no
    obtain ⟨y, y1, y2⟩ := m_tries (n := n) (M := sI M 0 (bI (!true))) (by omega)
    have hRR2 : RR P NP D T LC CC FC c' ((sA (sI M 0 (bI (!true))) 12 y).2.1 9) := hRR.cpy hc2 fun _ _ => rfl
    obtain ⟨c2, M2, s, z1, z2, LC', FC', z3, _, z4, _⟩ := trial (n := n) (sv := sv) (x := x) (no := no) (many := t) (M := sA (sI M 0 (bI (!true))) 12 y) (hU.fr fun j h1 _ => sI_o (by omega)) hn hD hD2 hRR2 (by omega) hRR.1.time.2.1
    have hU2 : Ru P NP E Bs F Pt Ap ru M2 := Ru.Fr (hU.fr (M' := sA (sI M 0 (bI (!true))) 12 y) fun j h1 _ => sI_o (by omega)) z4
    obtain ⟨y', w1, w2⟩ := m_laysBack (n := n) (M := M2) (by omega) (nI (pc (M2.2.1 9) P (-1)))
    rw [if_pos rfl, if_pos rfl, if_pos rfl, hc1, ebnd, z1, ebnd2, ebnd3, if_pos rfl, ho0, y1, ebnd, z2, ebnd2, m_free hU2.2.1.1 z3.1.P64 (by omega), ebnd, w1, ebnd2, z3.1.1.2.2.1]
    exact LKf_ok (p3 := p3) rfl rfl (EqM.back (EqM.told M 0) y2 z4 w2) (z4.1 0 (by decide) (by decide))
theorem lk_processIn (hU : Ru P NP E Bs F Pt Ap ru M) (hRR : RR P NP D T LC CC FC no (M.2.1 9)) (hn : 2500 < n) (hD : 2100 ≤ D) (hD2 : D ≤ 100000) (v w u : Int32) : LKf M (f_L_processIn n sv x ru no fo 1 p3 v w u) (f_X9_processIn n M v w u) := by
  have hNP : NP ≤ 8 := hU.2.2.2.2.1
  have hm : f_X9_processIn n M v w u = if vb v NP then j_X9_processIn_37 n v w u (sI M 0 0) (bI (tkb w && vb u 3)) else some (sI M 0 1, (0 : Int32)) := by
    unfold f_X9_processIn
    rw [m_isProcess hU, ebnd, m_is, ebnd2, ifz]
    cases vb v NP
    · rfl
    · rw [if_pos rfl, if_pos rfl, m_areTicks, ebnd, ifz]
      cases tkb w
      · rfl
      · rw [if_pos rfl, show (2 : Int64) = (nI 2).toInt64 from by decide, in_to u 2 (by decide), ebnd, ifz]
        cases vb u 3 <;> rfl
  have hc : f_X8_processIn n sv x ru no fo v w u = if vb v NP then (if tkb w then (if vb u 3 then bnd (f_X2_copyFrom n fo no) (fun (fo_3 : OS) => bnd2 (f_X8_pass n sv x ru no fo_3 w) (fun (fo_4 : OS) (r_5 : Int32) => if u = (2 : Int32) then bnd (f_X2_heldPages n fo_4 v) (fun (r_8 : Int32) => some (fo_4, r_8, 0)) else (if u = 0 then bnd (f_X6_get n (5 : Int32) 40 (fo_4.2.1 11) v (0 : Int32)) (fun (r_7 : Int32) => some (fo_4, r_7, 0)) else bnd (f_X6_get n (5 : Int32) 40 (fo_4.2.1 11) v (1 : Int32)) (fun (r_6 : Int32) => some (fo_4, r_6, 0))))) else some (fo, (0 : Int32), 2)) else some (fo, (0 : Int32), 2)) else some (fo, (0 : Int32), 1) := by
    unfold f_X8_processIn
    rw [c_needProcess hU, ebnd]
    cases vb v NP
    · rfl
    · rw [if_pos rfl, if_pos rfl, if_pos rfl, c_needTicks, ebnd]
      cases tkb w
      · rfl
      · rw [if_pos rfl, if_pos rfl, if_pos rfl, show (if u ≤ (2 : Int32) then _ else _ : Option (OS × Int32 × Nat)) = if u ≤ nI 2 then _ else _ from rfl, nd3e u 2 (by decide)]
  unfold f_L_processIn
  rw [hm, hc]
  cases hv : vb v NP with
  | false => exact LKf_no (p3 := p3) (k := 1) rfl (by decide) rfl (EqM.told M 1) rfl
  | true =>
    obtain ⟨p, hp, rfl⟩ := vb_ok (by omega) hv
    have bad : LKf M (bnd3 (some (fo, (0 : Int32), 2)) (fun (p0fo_1 : OS) (r_2 : Int32) (cd_3 : Nat) => if cd_3 = 0 then (gI 1 (0 : Int32) (Let (vp_updL p3 (0 : Int32).toNatClampNeg ((r_2).toInt64)) (fun p4_4 : Nat → Int64 => some (p0fo_1, p4_4, (0 : Int32))))) else (if cd_3 = 1 then (some (p0fo_1, p3, (1 : Int32))) else (if cd_3 = 2 then (some (p0fo_1, p3, (2 : Int32))) else (none))))) (j_X9_processIn_37 n (nI p) w u (sI M 0 0) 0) := LKf_no (p3 := p3) (k := 2) rfl (by decide) rfl ((EqM.told M 0).tr (EqM.told _ 2)) rfl
    cases hw : tkb w with
    | false => exact bad
    | true =>
      cases hu : vb u 3 with
      | false => exact bad
      | true =>
        clear bad
        obtain ⟨t, ht1, ht2, rfl⟩ := tkb_ok hw
        obtain ⟨j, hj, rfl⟩ := vb_ok (by decide) hu
        obtain ⟨c', hc1, hc2⟩ := c_copy (n := n) fo no
        obtain ⟨y, y1, y2⟩ := m_tries (n := n) (M := sI (sI M 0 0) 0 0) (by omega)
        have hUy : Ru P NP E Bs F Pt Ap ru (sA (sI (sI M 0 0) 0 0) 12 y) := hU.fr fun j h1 _ => by rw [sA_1, sI_o (by omega), sI_o (by omega)]
        have hRR2 : RR P NP D T LC CC FC c' ((sA (sI (sI M 0 0) 0 0) 12 y).2.1 9) := hRR.cpy hc2 fun _ _ => rfl
        obtain ⟨c2, M2, s, z1, z2, LC', FC', z3, _, z4, _⟩ := trial (n := n) (sv := sv) (x := x) (no := no) (many := t) (M := sA (sI (sI M 0 0) 0 0) 12 y) hUy hn hD hD2 hRR2 (by omega) hRR.1.time.2.1
        have hU2 : Ru P NP E Bs F Pt Ap ru M2 := hUy.Fr z4
        have fin : ∀ (val : Int32), (if nI j = (2 : Int32) then bnd (f_X2_heldPages n c2 (nI p)) (fun (r_8 : Int32) => some (c2, r_8, 0)) else (if nI j = 0 then bnd (f_X6_get n (5 : Int32) 40 (c2.2.1 11) (nI p) (0 : Int32)) (fun (r_7 : Int32) => some (c2, r_7, 0)) else bnd (f_X6_get n (5 : Int32) 40 (c2.2.1 11) (nI p) (1 : Int32)) (fun (r_6 : Int32) => some (c2, r_6, 0))) : Option (OS × Int32 × Nat)) = some (c2, val, 0) → (if nI j = (2 : Int32) then bnd (f_X9_pagesOfAll n M2 (nI p)) (fun (r_13 : Int32) => j_X9_processIn_76 n M2 r_13) else bnd (f_X9_process0 n M2 (nI p) (nI j)) (fun (r_12 : Int32) => j_X9_processIn_76 n M2 r_12)) = j_X9_processIn_76 n M2 val → LKf M (bnd3 (if true = true then (if true = true then (if true = true then bnd (f_X2_copyFrom n fo no) (fun (fo_3 : OS) => bnd2 (f_X8_pass n sv x ru no fo_3 (nI t)) (fun (fo_4 : OS) (r_5 : Int32) => if nI j = (2 : Int32) then bnd (f_X2_heldPages n fo_4 (nI p)) (fun (r_8 : Int32) => some (fo_4, r_8, 0)) else (if nI j = 0 then bnd (f_X6_get n (5 : Int32) 40 (fo_4.2.1 11) (nI p) (0 : Int32)) (fun (r_7 : Int32) => some (fo_4, r_7, 0)) else bnd (f_X6_get n (5 : Int32) 40 (fo_4.2.1 11) (nI p) (1 : Int32)) (fun (r_6 : Int32) => some (fo_4, r_6, 0))))) else some (fo, (0 : Int32), 2)) else some (fo, (0 : Int32), 2)) else some (fo, (0 : Int32), 1)) (fun (p0fo_1 : OS) (r_2 : Int32) (cd_3 : Nat) => if cd_3 = 0 then (gI 1 (0 : Int32) (Let (vp_updL p3 (0 : Int32).toNatClampNeg ((r_2).toInt64)) (fun p4_4 : Nat → Int64 => some (p0fo_1, p4_4, (0 : Int32))))) else (if cd_3 = 1 then (some (p0fo_1, p3, (1 : Int32))) else (if cd_3 = 2 then (some (p0fo_1, p3, (2 : Int32))) else (none))))) (if true = true then j_X9_processIn_37 n (nI p) (nI t) (nI j) (sI M 0 0) (bI (true && true)) else some (sI M 0 1, (0 : Int32))) := fun val h1 h2 => by
          obtain ⟨y', w1, w2⟩ := m_laysBack (n := n) (M := M2) (by omega) val
          have h3 : j_X9_processIn_37 n (nI p) (nI t) (nI j) (sI M 0 0) (bI (true && true)) = some (sA M2 9 y', val) := by
            unfold j_X9_processIn_37
            rw [show f_X9_may n (sI M 0 0) (bI (true && true)) 2 = some (sI (sI M 0 0) 0 0, 1) from rfl, ebnd2, if_neg (show ¬ (1 : Int32) = 0 from by decide), y1, ebnd, z2, ebnd2, h2]
            unfold j_X9_processIn_76
            rw [w1, ebnd2]
          rw [if_pos rfl, if_pos rfl, if_pos rfl, if_pos rfl, hc1, ebnd, z1, ebnd2, h1, ebnd3, if_pos rfl, ho0, h3]
          exact LKf_ok (p3 := p3) rfl rfl (EqM.back ((EqM.told M 0).tr (EqM.told _ 0)) y2 z4 w2) (z4.1 0 (by decide) (by decide))
        have hp8 : p < 8 := by omega
        obtain ⟨q0, q1, q2, q3, q4⟩ := z3.1.1.2.2.2.1 p hp8
        have hsm : fb_sm (fun l => if ofp (M2.2.1 9) (nI p) l then pc (M2.2.1 9) P (nI l) else 0) LC' = fb_sm (fun l => if decide (M2.2.1 9 (58 + 6 * l) = nI p) then pc (M2.2.1 9) P (nI l) else 0) LC' := fb_sm_cong fun l _ => by rw [ofp_one hp8]
        have hj2 : j = 0 ∨ j = 1 ∨ j = 2 := by omega
        rcases hj2 with rfl | rfl | rfl
        · refine fin (M2.2.1 9 (10 + 6 * p)) ?_ ?_
          · rw [if_neg (show ¬ nI 0 = (2 : Int32) from by decide), if_pos (show nI 0 = (0 : Int32) from rfl), gP0 hp8, ebnd, q0]
          · rw [if_neg (show ¬ nI 0 = (2 : Int32) from by decide), show nI 0 = (0 : Int32) from rfl, mP0 hp8, ebnd]
        · refine fin (M2.2.1 9 (10 + 6 * p + 1)) ?_ ?_
          · rw [if_neg (show ¬ nI 1 = (2 : Int32) from by decide), if_neg (show ¬ nI 1 = (0 : Int32) from by decide), gP1 hp8, ebnd, q1]
          · rw [if_neg (show ¬ nI 1 = (2 : Int32) from by decide), show nI 1 = (1 : Int32) from rfl, mP1 hp8, ebnd]
        · refine fin (nI (fb_sm (fun l => if decide (M2.2.1 9 (58 + 6 * l) = nI p) then pc (M2.2.1 9) P (nI l) else 0) LC')) ?_ ?_
          · rw [if_pos (show nI 2 = (2 : Int32) from rfl), c_heldPages z3.1 (by omega), ebnd, hsm]
          · rw [if_pos (show nI 2 = (2 : Int32) from rfl), m_pagesOfAll z3.1 hU2.2.1.1 (by omega), ebnd]
/-! what the next hearing would fine -/
theorem c_latestFines (h : R0 P NP D K T LC CC FC c (M.2.1 9)) (hn : 100 < n) (v : Int32) : f_X2_latestFines n c v = some (su (fun l => if ofp (M.2.1 9) v l then c.2.1 12 (8 * l + 5) else 0) LC) := by
  have h80 := h.L80
  refine sumloop (l := l_X2_latestFines_4 n c v) (fun l => ofp (M.2.1 9) v l) (fun l => c.2.1 12 (8 * l + 5)) (K := LC) (fun N s => ?_) (fun N s i hi => ?_) (by omega)
  · show s_X2_latestFines_4 n c v _ s (nI LC) = _
    unfold s_X2_latestFines_4
    rw [h.loans, if_pos (Int32.le_refl _)]
  · show s_X2_latestFines_4 n c v _ s (nI i) = _
    unfold s_X2_latestFines_4
    rw [h.loans, if_neg (nI_ge hi (by omega)), c_isLoanOf h hi, ebnd, ifz]
    cases ofp (M.2.1 9) v i
    · rw [if_neg (show ¬ (false = true) from by decide), if_neg (show ¬ (false = true) from by decide), eLet, nI_1]
    · rw [if_pos rfl, if_pos rfl, gL5 (by omega), ebnd, eLet, eLet, nI_1]
theorem lk_wouldFine (hU : Ru P NP E Bs F Pt Ap ru M) (hRR : RR P NP D T LC CC FC no (M.2.1 9)) (hM : M.1 17 = -1) (hn : 2500 < n) (hD : 2100 ≤ D) (hD2 : D ≤ 100000) (v : Int32) : LKf M (f_L_wouldFine n sv x ru no fo 1 p3 v) (f_X9_wouldFine n M v) := by
  have hR := hRR.1
  have h80 := hR.L80
  have hT := hR.time
  have hE : 1 ≤ E := hU.2.2.2.2.2.1
  have hg := nxt_gt (T := T) hE
  unfold f_L_wouldFine f_X8_wouldFine f_X8_nextHearing f_X9_wouldFine
  rw [c_needLoan hR.loans, ebnd, m_isLoan hR.mloans h80, ebnd, m_is, ebnd2, ifz, hT.2.1, c_next hU hT.2.2, ebnd, ebnd, m_next (M := sI M 0 (bI (!vb v LC))) (ru := ru) (hU.fr fun j h1 _ => sI_o (by omega)) hT.2.2 hT.1, ebnd]
  cases hv : vb v LC with
  | false => exact LKf_no (p3 := p3) (k := 1) rfl (by decide) rfl (EqM.told M 1) rfl
  | true =>
    obtain ⟨l, hl, rfl⟩ := vb_ok (by omega) hv
    by_cases hx : nxt T E ≤ 2000
    · obtain ⟨c', hc1, hc2⟩ := c_copy (n := n) fo no
      obtain ⟨y, y1, y2⟩ := m_tries (n := n) (M := sI M 0 (bI (!true))) (by omega)
      have hUy : Ru P NP E Bs F Pt Ap ru (sI (sI (sA (sI M 0 (bI (!true))) 12 y) 17 (nI l)) 18 0) := hU.fr fun j h1 _ => by rw [sI_o (by omega), sI_o (by omega), sA_1, sI_o (by omega)]
      have hRR2 : RR P NP D T LC CC FC c' ((sI (sI (sA (sI M 0 (bI (!true))) 12 y) 17 (nI l)) 18 0).2.1 9) := hRR.cpy hc2 fun _ _ => rfl
      obtain ⟨c2, M2, s, z1, z2, LC', FC', z3, zl, z4, z5, _⟩ := trialHearing (n := n) (sv := sv) (x := x) (no := no) hUy hn hD hD2 hRR2 hT.2.1 hx
      have z6 := z5 rfl l hl rfl
      obtain ⟨y', w1, w2⟩ := m_laysBack (n := n) (M := sI M2 17 (-1)) (by omega) (c2.2.1 12 (8 * l + 5))
      rw [if_pos rfl, if_pos rfl, if_pos rfl, if_pos hx, if_neg (nI_m1 _ (by omega)), if_neg (nI_m1 _ (by omega)), hc1, ebnd, z1, ebnd, gL5 (by omega), ebnd, ebnd3, if_pos rfl, ho0, y1, ebnd, eLet, eLet, gz0, show (sI (sI (sA (sI M 0 (bI (!true))) 12 y) 17 (nI l)) 18 0).2.1 9 0 = nI T from hT.1, pk_sub (show T ≤ nxt T E by omega), z2, ebnd2, eLet, show (sI M2 17 (-1)).1 18 = c2.2.1 12 (8 * l + 5) from z6, w1, ebnd2]
      refine LKf_ok (p3 := p3) rfl rfl ⟨fun j a b d => ?_, fun j a b d e => ?_, fun i hi => ?_, ?_⟩ ?_
      · rw [sA_1]
        by_cases e : j = 17
        · subst e
          rw [sI_s, hM]
        · rw [sI_o e, z4.1 j b d, sI_o b, sI_o e, sA_1, sI_o a]
      · rw [sA_o a, sI_2, z4.2.1 j a e, sI_2, sI_2, sA_o d, sI_2]
      · rw [sA_get, w2 i hi, sI_2, z4.2.1 12 (by decide) (by decide), sI_2, sI_2, sA_get, y2 i hi, sI_2]
      · rw [sA_22, sI_2, z4.2.2, sI_2, sI_2, sA_22, sI_2]
      · rw [sA_1, sI_o (by decide), z4.1 0 (by decide) (by decide), sI_o (by decide), sI_o (by decide), sA_1]
        rfl
    · rw [if_pos rfl, if_pos rfl, if_pos rfl, if_neg hx, if_pos rfl, if_pos rfl, ebnd3, if_pos rfl, ho0]
      exact LKf_ok (p3 := p3) rfl rfl (EqM.told M 0) rfl
theorem lk_wouldPay (hU : Ru P NP E Bs F Pt Ap ru M) (hRR : RR P NP D T LC CC FC no (M.2.1 9)) (hM : M.1 19 = -1) (hn : 2500 < n) (hD : 2100 ≤ D) (hD2 : D ≤ 100000) (v : Int32) : LKf M (f_L_wouldPay n sv x ru no fo 1 p3 v) (f_X9_wouldPay n M v) := by
  have hR := hRR.1
  have h80 := hR.L80
  have hT := hR.time
  have hE : 1 ≤ E := hU.2.2.2.2.2.1
  have hNP : NP ≤ 8 := hU.2.2.2.2.1
  have hg := nxt_gt (T := T) hE
  unfold f_L_wouldPay f_X8_wouldPay f_X8_nextHearing f_X9_wouldPay
  rw [c_needProcess hU, ebnd, m_isProcess hU, ebnd, m_is, ebnd2, ifz, hT.2.1, c_next hU hT.2.2, ebnd, ebnd, m_next (M := sI M 0 (bI (!vb v NP))) (ru := ru) (hU.fr fun j h1 _ => sI_o (by omega)) hT.2.2 hT.1, ebnd]
  cases hv : vb v NP with
  | false => exact LKf_no (p3 := p3) (k := 1) rfl (by decide) rfl (EqM.told M 1) rfl
  | true =>
    obtain ⟨p, hp, rfl⟩ := vb_ok (by omega) hv
    by_cases hx : nxt T E ≤ 2000
    · obtain ⟨c', hc1, hc2⟩ := c_copy (n := n) fo no
      obtain ⟨y, y1, y2⟩ := m_tries (n := n) (M := sI M 0 (bI (!true))) (by omega)
      have hUy : Ru P NP E Bs F Pt Ap ru (sI (sI (sA (sI M 0 (bI (!true))) 12 y) 19 (nI p)) 20 0) := hU.fr fun j h1 _ => by rw [sI_o (by omega), sI_o (by omega), sA_1, sI_o (by omega)]
      have hRR2 : RR P NP D T LC CC FC c' ((sI (sI (sA (sI M 0 (bI (!true))) 12 y) 19 (nI p)) 20 0).2.1 9) := hRR.cpy hc2 fun _ _ => rfl
      obtain ⟨c2, M2, s, z1, z2, LC', FC', z3, zl, z4, _, z5⟩ := trialHearing (n := n) (sv := sv) (x := x) (no := no) hUy hn hD hD2 hRR2 hT.2.1 hx
      have z6 : M2.1 20 = su (fun l => if ofp (M2.2.1 9) (nI p) l then c2.2.1 12 (8 * l + 5) else 0) LC' := by
        rw [z5, show (sI (sI (sA (sI M 0 (bI (!true))) 12 y) 19 (nI p)) 20 0).1 20 = 0 from rfl, Int32.zero_add]
        refine su_cong fun l _ => ?_
        rw [ofp_one (by omega)]
        by_cases e : M2.2.1 9 (58 + 6 * l) = nI p
        · rw [if_pos (show M2.2.1 9 (58 + 6 * l) = (sI (sI (sA (sI M 0 (bI (!true))) 12 y) 19 (nI p)) 20 0).1 19 from e), decide_eq_true e, if_pos rfl]
        · rw [if_neg (show ¬ M2.2.1 9 (58 + 6 * l) = (sI (sI (sA (sI M 0 (bI (!true))) 12 y) 19 (nI p)) 20 0).1 19 from e), decide_eq_false e]
          rfl
      obtain ⟨y', w1, w2⟩ := m_laysBack (n := n) (M := sI M2 19 (-1)) (by omega) (su (fun l => if ofp (M2.2.1 9) (nI p) l then c2.2.1 12 (8 * l + 5) else 0) LC')
      rw [if_pos rfl, if_pos rfl, if_pos rfl, if_pos hx, if_neg (nI_m1 _ (by omega)), if_neg (nI_m1 _ (by omega)), hc1, ebnd, z1, ebnd, c_latestFines z3.1 (by omega), ebnd, ebnd3, if_pos rfl, ho0, y1, ebnd, eLet, eLet, gz0, show (sI (sI (sA (sI M 0 (bI (!true))) 12 y) 19 (nI p)) 20 0).2.1 9 0 = nI T from hT.1, pk_sub (show T ≤ nxt T E by omega), z2, ebnd2, eLet, show (sI M2 19 (-1)).1 20 = su (fun l => if ofp (M2.2.1 9) (nI p) l then c2.2.1 12 (8 * l + 5) else 0) LC' from z6, w1, ebnd2]
      refine LKf_ok (p3 := p3) rfl rfl ⟨fun j a b d => ?_, fun j a b d e => ?_, fun i hi => ?_, ?_⟩ ?_
      · rw [sA_1]
        by_cases e : j = 19
        · subst e
          rw [sI_s, hM]
        · rw [sI_o e, z4.1 j b d, sI_o d, sI_o e, sA_1, sI_o a]
      · rw [sA_o a, sI_2, z4.2.1 j a e, sI_2, sI_2, sA_o d, sI_2]
      · rw [sA_get, w2 i hi, sI_2, z4.2.1 12 (by decide) (by decide), sI_2, sI_2, sA_get, y2 i hi, sI_2]
      · rw [sA_22, sI_2, z4.2.2, sI_2, sI_2, sA_22, sI_2]
      · rw [sA_1, sI_o (by decide), z4.1 0 (by decide) (by decide), sI_o (by decide), sI_o (by decide), sA_1]
        rfl
    · rw [if_pos rfl, if_pos rfl, if_pos rfl, if_neg hx, if_pos rfl, if_pos rfl, ebnd3, if_pos rfl, ho0]
      exact LKf_ok (p3 := p3) rfl rfl (EqM.told M 0) rfl
end FORE2
