/-! the best order, and what a loan's pages would help -/
section FORE3
variable {P NP D K T LC CC FC E Bs F Pt Ap n : Nat} {c no fo ru M x : OS} {sv : Value} {p3 : Nat → Int64} {m : Nat → Int32}
theorem RR.order (h : RR P NP D T LC CC FC c m) {o : Nat} (ho : o ≤ 2) : RR P NP D T LC CC FC (sI c 1 (nI o)) (upd m 1 (nI o)) := by
  obtain ⟨h1, h2, h3, h4⟩ := h
  refine ⟨h1.order ho, ⟨?_, ?_⟩, ?_, h4⟩
  · rw [sI_o (by decide), upd_n (by decide)]
    exact h2.1
  · rw [sI_o (by decide), upd_n (by decide)]
    exact h2.2
  · obtain ⟨B, b1, b2⟩ := h3
    exact ⟨B, b1, by rw [upd_n (by decide)]; exact b2⟩
theorem RR.release (h : RR P NP D T LC CC FC c m) {l many : Nat} (hl : l < LC) (hm : many ≤ pc m P (nI l)) : RR P NP D T LC CC FC (relC c l many) (relM m P l many) := by
  obtain ⟨h1, h2, h3, h4⟩ := h
  refine ⟨h1.release hl hm, ⟨?_, ?_⟩, ?_, h4⟩
  · rw [relM_o (by omega)]
    exact h2.1
  · rw [relM_o (by omega)]
    exact h2.2
  · obtain ⟨B, b1, b2⟩ := h3
    exact ⟨B, b1, by rw [relM_o (by omega)]; exact b2⟩
theorem best_go (hn : 2500 < n) (hD : 2100 ≤ D) (hD2 : D ≤ 100000) {t : Nat} (ht : t ≤ 2000) : ∀ (d i N N2 : Nat) (fo M : OS) (w2 w3 : Int32), i + d = 3 → Ru P NP E Bs F Pt Ap ru M → RR P NP D T LC CC FC no (M.2.1 9) → d < N → d < N2 → ∃ fo' M' r, l_X8_bestOrder_12 n sv x ru no (nI t) N fo w2 w3 (nI i) = some (fo', r, 0) ∧ l_X9_bestOrder_20 n (nI t) N2 M w2 w3 (nI i) = some (M', r) ∧ EqM M M' ∧ M'.1 0 = M.1 0
  | 0, i, N, N2, fo, M, w2, w3, hi, hU, hRR, hN, hN2 => by
    obtain ⟨N', rfl⟩ : ∃ N', N = N' + 1 := ⟨N - 1, by omega⟩
    obtain ⟨N2', rfl⟩ : ∃ N', N2 = N' + 1 := ⟨N2 - 1, by omega⟩
    refine ⟨fo, M, w2, ?_, ?_, EqM.rf M, rfl⟩
    · show s_X8_bestOrder_12 n sv x ru no (nI t) _ fo w2 w3 (nI i) = _
      unfold s_X8_bestOrder_12
      rw [if_pos (show (2 : Int32) < nI i from nI_lt (a := 2) (by omega) (by omega))]
    · show s_X9_bestOrder_20 n (nI t) _ M w2 w3 (nI i) = _
      unfold s_X9_bestOrder_20
      rw [if_pos (show (2 : Int32) < nI i from nI_lt (a := 2) (by omega) (by omega))]
  | d + 1, i, N, N2, fo, M, w2, w3, hi, hU, hRR, hN, hN2 => by
    obtain ⟨N', rfl⟩ : ∃ N', N = N' + 1 := ⟨N - 1, by omega⟩
    obtain ⟨N2', rfl⟩ : ∃ N', N2 = N' + 1 := ⟨N2 - 1, by omega⟩
    obtain ⟨c', hc1, hc2⟩ := c_copy (n := n) fo no
    obtain ⟨y, y1, y2⟩ := m_tries (n := n) (M := M) (by omega)
    have hUy : Ru P NP E Bs F Pt Ap ru (sA (sA M 12 y) 9 (upd (M.2.1 9) 1 (nI i))) := hU.fr fun j _ _ => rfl
    have hRR2 : RR P NP D T LC CC FC (sI c' 1 (nI i)) ((sA (sA M 12 y) 9 (upd (M.2.1 9) 1 (nI i))).2.1 9) := by
      rw [sA_get]
      exact RR.order (hRR.cpy hc2 fun _ _ => rfl) (by omega)
    obtain ⟨c2, M2, s, z1, z2, LC', FC', z3, _, z4, _⟩ := trial (n := n) (sv := sv) (x := x) (no := no) (many := t) (M := sA (sA M 12 y) 9 (upd (M.2.1 9) 1 (nI i))) hUy hn hD hD2 hRR2 ht hRR.1.time.2.1
    obtain ⟨y', w1, w4⟩ := m_laysBack (n := n) (M := M2) (by omega) s
    have hf : Fr (sA M 12 y) M2 := (Fr.row _ _).tr z4
    have heq : EqM M (sA M2 9 y') := EqM.back (EqM.rf M) y2 hf w4
    have h0 : (sA M2 9 y').1 0 = M.1 0 := hf.1 0 (by decide) (by decide)
    have hU3 : Ru P NP E Bs F Pt Ap ru (sA M2 9 y') := hU.fr fun j h1 h2 => heq.1 j (by omega) (by omega) (by omega)
    have hRR3 : RR P NP D T LC CC FC no ((sA M2 9 y').2.1 9) := hRR.row heq.2.2.1
    have hc : l_X8_bestOrder_12 n sv x ru no (nI t) (N' + 1) fo w2 w3 (nI i) = if s ≤ w3 then l_X8_bestOrder_12 n sv x ru no (nI t) N' c2 w2 w3 (nI (i + 1)) else l_X8_bestOrder_12 n sv x ru no (nI t) N' c2 (nI i) s (nI (i + 1)) := by
      show s_X8_bestOrder_12 n sv x ru no (nI t) _ fo w2 w3 (nI i) = _
      unfold s_X8_bestOrder_12
      rw [if_neg (show ¬ (2 : Int32) < nI i from nI_nlt (a := 2) (by omega) (by decide)), hc1, ebnd, eLet, z1, ebnd2, eLet, eLet, nI_1]
    have hm : l_X9_bestOrder_20 n (nI t) (N2' + 1) M w2 w3 (nI i) = if w3 < s then l_X9_bestOrder_20 n (nI t) N2' (sA M2 9 y') (nI i) s (nI (i + 1)) else l_X9_bestOrder_20 n (nI t) N2' (sA M2 9 y') w2 w3 (nI (i + 1)) := by
      show s_X9_bestOrder_20 n (nI t) _ M w2 w3 (nI i) = _
      unfold s_X9_bestOrder_20
      rw [if_neg (show ¬ (2 : Int32) < nI i from nI_nlt (a := 2) (by omega) (by decide)), y1, ebnd, sA_o (show (9 : Nat) ≠ 12 by decide), hz1, z2, ebnd2, w1, ebnd2, eLet, eLet, nI_1]
    rw [hc, hm]
    by_cases hs : s ≤ w3
    · rw [if_pos hs, if_neg (Int32.not_lt.mpr hs)]
      obtain ⟨fo', M', r, q1, q2, q3, q4⟩ := best_go hn hD hD2 ht d (i + 1) N' N2' c2 (sA M2 9 y') w2 w3 (by omega) hU3 hRR3 (by omega) (by omega)
      exact ⟨fo', M', r, q1, q2, heq.tr q3, q4.trans h0⟩
    · rw [if_neg hs, if_pos (Int32.not_le.mp hs)]
      obtain ⟨fo', M', r, q1, q2, q3, q4⟩ := best_go hn hD hD2 ht d (i + 1) N' N2' c2 (sA M2 9 y') (nI i) s (by omega) hU3 hRR3 (by omega) (by omega)
      exact ⟨fo', M', r, q1, q2, heq.tr q3, q4.trans h0⟩
theorem lk_bestOrder (hU : Ru P NP E Bs F Pt Ap ru M) (hRR : RR P NP D T LC CC FC no (M.2.1 9)) (hn : 2500 < n) (hD : 2100 ≤ D) (hD2 : D ≤ 100000) (v : Int32) : LKf M (f_L_bestOrder n sv x ru no fo 1 p3 v) (f_X9_bestOrder n M v) := by
  unfold f_L_bestOrder f_X8_bestOrder f_X9_bestOrder
  rw [c_needTicks, ebnd, m_areTicks, ebnd, m_is, ebnd2, ifz]
  cases hw : tkb v with
  | false => exact LKf_no (p3 := p3) (k := 1) rfl (by decide) rfl (EqM.told M 1) rfl
  | true =>
    obtain ⟨t, ht1, ht2, rfl⟩ := tkb_ok hw
    obtain ⟨fo', M', r, q1, q2, q3, q4⟩ := best_go (n := n) (sv := sv) (x := x) (no := no) (ru := ru) (P := P) (NP := NP) (D := D) (T := T) (LC := LC) (CC := CC) (FC := FC) (E := E) (Bs := Bs) (F := F) (Pt := Pt) (Ap := Ap) hn hD hD2 (t := t) (by omega) 3 0 n n fo (sI M 0 0) 0 (-1) (by omega) (hU.fr fun j h1 _ => sI_o (by omega)) hRR (by omega) (by omega)
    have q1' : l_X8_bestOrder_12 n sv x ru no (nI t) n fo 0 (-1) 0 = some (fo', r, 0) := q1
    have q2' : l_X9_bestOrder_20 n (nI t) n (sI M 0 (bI (!true))) 0 (-1) 0 = some (M', r) := q2
    rw [if_pos rfl, if_pos rfl, if_pos rfl, q1', ebnd3, if_pos rfl, ho0, q2']
    exact LKf_ok (p3 := p3) rfl rfl ((EqM.told M 0).tr q3) (q4.trans rfl)
theorem helps_go (hn : 2500 < n) (hD : 2100 ≤ D) (hD2 : D ≤ 100000) {l q g : Nat} (hl : l < LC) (hq : q < CC) (hx : nxt T E ≤ 2000) (hg64 : g ≤ 64) : ∀ (d i N N2 : Nat) (fo M : OS), i + d = g + 1 → Ru P NP E Bs F Pt Ap ru M → RR P NP D T LC CC FC no (M.2.1 9) → pc (M.2.1 9) P (nI l) = g → d < N → d < N2 → ∃ fo' M' r, l_X8_helps_52 n sv x ru no (nI l) (nI q) (nI g) N fo (nI i) = some (fo', r, 0) ∧ l_X9_helps_57 n (nI l) (nI q) (nI g) N2 M (nI i) = some (M', r) ∧ EqM M M' ∧ M'.1 0 = M.1 0
  | 0, i, N, N2, fo, M, hi, hU, hRR, hg, hN, hN2 => by
    obtain ⟨N', rfl⟩ : ∃ N', N = N' + 1 := ⟨N - 1, by omega⟩
    obtain ⟨N2', rfl⟩ : ∃ N', N2 = N' + 1 := ⟨N2 - 1, by omega⟩
    refine ⟨fo, M, -1, ?_, ?_, EqM.rf M, rfl⟩
    · show s_X8_helps_52 n sv x ru no (nI l) (nI q) (nI g) _ fo (nI i) = _
      unfold s_X8_helps_52
      rw [if_pos (nI_lt (by omega) (by omega))]
    · show s_X9_helps_57 n (nI l) (nI q) (nI g) _ M (nI i) = _
      unfold s_X9_helps_57
      rw [if_pos (nI_lt (by omega) (by omega))]
  | d + 1, i, N, N2, fo, M, hi, hU, hRR, hg, hN, hN2 => by
    obtain ⟨N', rfl⟩ : ∃ N', N = N' + 1 := ⟨N - 1, by omega⟩
    obtain ⟨N2', rfl⟩ : ∃ N', N2 = N' + 1 := ⟨N2 - 1, by omega⟩
    have h80 := hRR.1.L80
    have h60 := hRR.1.C60
    have h64 := hRR.1.P64
    have hT := hRR.1.time
    have hE : 1 ≤ E := hU.2.2.2.2.2.1
    have hgt := nxt_gt (T := T) hE
    obtain ⟨c', hc1, hc2⟩ := c_copy (n := n) fo no
    obtain ⟨y, y1, y2⟩ := m_tries (n := n) (M := M) (by omega)
    have hRR1 : RR P NP D T LC CC FC c' (M.2.1 9) := hRR.cpy hc2 fun _ _ => rfl
    have hUy : Ru P NP E Bs F Pt Ap ru (sA (sA M 12 y) 9 (relM (M.2.1 9) P l i)) := hU.fr fun j _ _ => rfl
    have hRR2 : RR P NP D T LC CC FC (relC c' l i) ((sA (sA M 12 y) 9 (relM (M.2.1 9) P l i)).2.1 9) := by
      rw [sA_get]
      exact RR.release hRR1 hl (by omega)
    have k1 : f_X2_release n c' (nI l) (nI i) = some (relC c' l i) := c_release (by omega) (by omega) (by omega)
    have k2 : f_X9_frees n (sA M 12 y) (nI l) (nI i) = some (sA (sA M 12 y) 9 (relM (M.2.1 9) P l i)) := m_frees hU.2.1.1 h64 (by omega) (by omega)
    obtain ⟨c2, M2, s, z1, z2, LC', FC', z3, _, z4, _⟩ := trialHearing (n := n) (sv := sv) (x := x) (no := no) (M := sA (sA M 12 y) 9 (relM (M.2.1 9) P l i)) hUy hn hD hD2 hRR2 hT.2.1 hx
    obtain ⟨y', w1, w4⟩ := m_copies (n := n) (by omega) (M2.2.1 12) (M2.2.1 9)
    have hf : Fr (sA M 12 y) M2 := (Fr.row _ _).tr z4
    have heq : EqM M (sA M2 9 y') := EqM.back (EqM.rf M) y2 hf w4
    have h0 : (sA M2 9 y').1 0 = M.1 0 := hf.1 0 (by decide) (by decide)
    have hU3 : Ru P NP E Bs F Pt Ap ru (sA M2 9 y') := hU.fr fun j h1 h2 => heq.1 j (by omega) (by omega) (by omega)
    have hRR3 : RR P NP D T LC CC FC no ((sA M2 9 y').2.1 9) := hRR.row heq.2.2.1
    have hg3 : pc ((sA M2 9 y').2.1 9) P (nI l) = g := by
      rw [pc_sm (m := M.2.1 9) (fun j j1 j2 => heq.2.2.1 j (by omega)) h64]
      exact hg
    have hs : f_X6_get n (7 : Int32) 420 (c2.2.1 13) (nI q) (3 : Int32) = some (M2.2.1 9 (602 + 7 * q + 3)) := c_claimV (j := 3) z3.1 hq (by decide)
    have hnx : f_X9_timeOfHearing n (sA (sA M 12 y) 9 (relM (M.2.1 9) P l i)) = some (nI (nxt T E)) := by
      rw [m_next hUy hT.2.2 (by rw [sA_get, relM_o (by omega)]; exact hT.1), if_pos hx]
    have hc : l_X8_helps_52 n sv x ru no (nI l) (nI q) (nI g) (N' + 1) fo (nI i) = if M2.2.1 9 (602 + 7 * q + 3) = 1 then some (c2, nI i, 0) else l_X8_helps_52 n sv x ru no (nI l) (nI q) (nI g) N' c2 (nI (i + 1)) := by
      show s_X8_helps_52 n sv x ru no (nI l) (nI q) (nI g) _ fo (nI i) = _
      unfold s_X8_helps_52
      rw [if_neg (nI_nlt (by omega) (by omega)), hc1, ebnd, k1, ebnd, z1, ebnd, hs, ebnd, eLet, nI_1]
    have hd : f_X9_doesHelp n M (nI l) (nI i) (nI q) = some (sA M2 9 y', if M2.2.1 9 (602 + 7 * q + 3) = 1 then 1 else 0) := by
      unfold f_X9_doesHelp
      rw [y1, ebnd, k2, ebnd, hnx, ebnd, gz0, sA_get, relM_o (by omega), hT.1, pk_sub (show T ≤ nxt T E by omega), z2, ebnd2, mC3 (by omega), ebnd]
      unfold j_X9_doesHelp_42
      rw [w1, ebnd, ebnd, eLet, eLet]
      by_cases h : M2.2.1 9 (602 + 7 * q + 3) = 1
      · rw [if_pos h, if_pos h, egZ1]
      · rw [if_neg h, if_neg h, egZ0]
    have hm : l_X9_helps_57 n (nI l) (nI q) (nI g) (N2' + 1) M (nI i) = if M2.2.1 9 (602 + 7 * q + 3) = 1 then some (sA M2 9 y', nI i) else l_X9_helps_57 n (nI l) (nI q) (nI g) N2' (sA M2 9 y') (nI (i + 1)) := by
      show s_X9_helps_57 n (nI l) (nI q) (nI g) _ M (nI i) = _
      unfold s_X9_helps_57
      rw [if_neg (nI_nlt (by omega) (by omega)), hd, ebnd2]
      by_cases h : M2.2.1 9 (602 + 7 * q + 3) = 1
      · rw [if_pos h, if_pos h, if_neg (show ¬ (1 : Int32) = 0 from by decide)]
      · rw [if_neg h, if_neg h, if_pos rfl, eLet, nI_1]
    rw [hc, hm]
    by_cases h : M2.2.1 9 (602 + 7 * q + 3) = 1
    · rw [if_pos h, if_pos h]
      exact ⟨c2, _, _, rfl, rfl, heq, h0⟩
    · rw [if_neg h, if_neg h]
      obtain ⟨fo', M', r, q1, q2, q3, q4⟩ := helps_go hn hD hD2 hl hq hx hg64 d (i + 1) N' N2' c2 (sA M2 9 y') (by omega) hU3 hRR3 hg3 (by omega) (by omega)
      exact ⟨fo', M', r, q1, q2, heq.tr q3, q4.trans h0⟩
theorem lk_helps (hU : Ru P NP E Bs F Pt Ap ru M) (hRR : RR P NP D T LC CC FC no (M.2.1 9)) (hn : 2500 < n) (hD : 2100 ≤ D) (hD2 : D ≤ 100000) (v w : Int32) : LKf M (f_L_helps n sv x ru no fo 1 p3 v w) (f_X9_helps n M v w) := by
  have hR := hRR.1
  have h80 := hR.L80
  have h60 := hR.C60
  have h64 := hR.P64
  have hT := hR.time
  have hm : f_X9_helps n M v w = j_X9_helps_22 n v w M (bI (vb v LC && vb w CC)) := by
    unfold f_X9_helps
    rw [m_isLoan hR.mloans h80, ebnd, ifz]
    cases vb v LC
    · rfl
    · rw [if_pos rfl, m_isClaim hR.mclaims h60, ebnd, ifz]
      cases vb w CC <;> rfl
  unfold f_L_helps f_X8_helps
  rw [hm, c_needLoan hR.loans, ebnd]
  cases hv : vb v LC with
  | false => exact LKf_no (p3 := p3) (k := 1) rfl (by decide) rfl (EqM.told M 1) rfl
  | true =>
    rw [if_pos rfl, if_pos rfl, c_needClaim hR.claims, ebnd]
    cases hw : vb w CC with
    | false => exact LKf_no (p3 := p3) (k := 1) rfl (by decide) rfl (EqM.told M 1) rfl
    | true =>
      obtain ⟨l, hl, rfl⟩ := vb_ok (by omega) hv
      obtain ⟨q, hq, rfl⟩ := vb_ok (by omega) hw
      obtain ⟨q0, q1, _⟩ := hR.1.2.2.2.2.1 l hl
      have hple := pc_le (M.2.1 9) P (nI l)
      unfold j_X9_helps_22 f_X8_nextHearing
      rw [show bI (true && true) = 1 from rfl, m_is1, ebnd2, if_neg (show ¬ (1 : Int32) = 0 from by decide), if_pos rfl, if_pos rfl, c_waits hR hq, ebnd, m_doesWait (by omega), ebnd, ifz, ifz, show (sI M 0 0).2.1 9 = M.2.1 9 from rfl]
      cases hwt : wt (M.2.1 9) q with
      | false =>
        refine LKf_ok (p3 := p3) (fo' := fo) (r := -1) ?_ rfl (EqM.told M 0) rfl
        rw [if_neg (show ¬ (false = true) from by decide), ebnd3, if_pos rfl, ho0]
      | true =>
        rw [if_pos rfl, if_pos rfl, hT.2.1, c_next hU hT.2.2, ebnd, ebnd, m_next (M := sI M 0 0) (ru := ru) (hU.fr fun j h1 _ => sI_o (by omega)) hT.2.2 hT.1, ebnd]
        by_cases hx : nxt T E ≤ 2000
        · have hmin : (if nI (pc (M.2.1 9) P (nI l)) < (64 : Int32) then nI (pc (M.2.1 9) P (nI l)) else (64 : Int32)) = nI (pc (M.2.1 9) P (nI l)) := by
            have k := minI (a := pc (M.2.1 9) P (nI l)) (b := 64) (by omega) (by decide)
            rw [Nat.min_eq_left (by omega)] at k
            exact k
          obtain ⟨fo', M', r, z1, z2, z3, z4⟩ := helps_go (n := n) (sv := sv) (x := x) (no := no) (ru := ru) (P := P) (NP := NP) (D := D) (T := T) (LC := LC) (CC := CC) (FC := FC) (E := E) (Bs := Bs) (F := F) (Pt := Pt) (Ap := Ap) hn hD hD2 hl hq hx (g := pc (M.2.1 9) P (nI l)) (by omega) (pc (M.2.1 9) P (nI l) + 1) 0 n n fo (sI M 0 0) (by omega) (hU.fr fun j h1 _ => sI_o (by omega)) hRR rfl (by omega) (by omega)
          have z1' : l_X8_helps_52 n sv x ru no (nI l) (nI q) (nI (pc (M.2.1 9) P (nI l))) n fo 0 = some (fo', r, 0) := z1
          have z2' : l_X9_helps_57 n (nI l) (nI q) (nI (pc (M.2.1 9) P (nI l))) n (sI M 0 0) 0 = some (M', r) := z2
          rw [if_pos hx, if_neg (nI_m1 _ (by omega)), if_neg (nI_m1 _ (by omega)), gL1 (by omega), ebnd, q1, eLet, hmin, z1', ebnd3, if_pos rfl, ho0, m_pagesOf (M := sI M 0 0) hU.2.1.1 h64 (by omega), ebnd, show (sI M 0 0).2.1 9 = M.2.1 9 from rfl, z2']
          exact LKf_ok (p3 := p3) rfl rfl ((EqM.told M 0).tr z3) (z4.trans rfl)
        · refine LKf_ok (p3 := p3) (fo' := fo) (r := -1) ?_ ?_ (EqM.told M 0) rfl
          · rw [if_neg hx, if_pos rfl, ebnd3, if_pos rfl, ho0]
          · rw [if_neg hx, if_pos rfl]
end FORE3
