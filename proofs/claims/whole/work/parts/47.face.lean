/-! the face: methods that look and may throw -/
theorem nd3 {α : Type} (v : Int32) (k : Nat) (A B : α) : (if v < 0 then A else (if v < nI k then B else A)) = if vb v k then B else A := by
  unfold vb
  by_cases h1 : v < 0
  · rw [if_pos h1, decide_eq_false (Int32.not_le.mpr h1)]
    rfl
  · rw [if_neg h1, decide_eq_true (Int32.not_lt.mp h1)]
    by_cases h2 : v < nI k
    · rw [if_pos h2, decide_eq_true h2]
      rfl
    · rw [if_neg h2, decide_eq_false h2]
      rfl
/-- a number from 0 to k -/
theorem nd3e {α : Type} (v : Int32) (k : Nat) (hk : k < 2 ^ 30) (A B : α) : (if v < 0 then A else (if v ≤ nI k then B else A)) = if vb v (k + 1) then B else A := by
  have e : (v ≤ nI k) ↔ v < nI (k + 1) := by
    rw [fa_le, fa_lt, nI_toInt (by omega), nI_toInt (by omega)]
    omega
  rw [← nd3]
  by_cases h : v ≤ nI k
  · rw [if_pos h, if_pos (e.mp h)]
  · rw [if_neg h, if_neg (fun z => h (e.mpr z))]
theorem in_to {n : Nat} (v : Int32) (k : Nat) (hk : k < 2 ^ 30) : f_X9_isIn n v.toInt64 (0 : Int64) (nI k).toInt64 = some (bI (vb v (k + 1))) := by
  have e : (v ≤ nI k) ↔ v < nI (k + 1) := by
    rw [fa_le, fa_lt, nI_toInt (by omega), nI_toInt (by omega)]
    omega
  rw [show (0 : Int64) = (0 : Int32).toInt64 from by decide, in32]
  unfold vb
  rw [decide_eq_decide.mpr e]
theorem LK.ok {M M' : OS} {o : Option ((Nat → Int64) × Int32)} {o2 : Option (OS × Int32)} {p3 : Nat → Int64} {r : Int32} (h1 : o = some (vp_updL p3 0 r.toInt64, 0)) (h2 : o2 = some (M', r)) (h3 : EqM M M') (h4 : M'.1 0 = 0) : LK M o o2 := ⟨_, _, M', r, h1, h2, h3, h4, fun _ => pk_uLs⟩
theorem LK.no {M M' : OS} {o : Option ((Nat → Int64) × Int32)} {o2 : Option (OS × Int32)} {p3 : Nat → Int64} {k b : Int32} (h1 : o = some (p3, k)) (hk : k ≠ 0) (h2 : o2 = some (M', b)) (h3 : EqM M M') (h4 : M'.1 0 = k) : LK M o o2 := ⟨_, _, M', b, h1, h2, h3, h4, fun h => absurd h hk⟩
/-- the cases of a switch over 0 to k, read as a test of the range -/
theorem sw_in {v : Int32} {k : Nat} (hk : k < 2 ^ 30) : (v.toInt < 0 ∨ (k : Int) < v.toInt) ↔ vb v (k + 1) = false := by
  unfold vb
  rw [← Bool.not_eq_true, Bool.and_eq_true, decide_eq_true_eq, decide_eq_true_eq, fa_le, fa_lt, nI_toInt (by omega), show (0 : Int32).toInt = 0 from by decide]
  omega
section FACE
variable {P NP D K T LC CC FC E Bs F Pt Ap n : Nat} {no ru M x : OS} {sv : Value} {p3 : Nat → Int64}
theorem c_loanOf (h : R0 P NP D K T LC CC FC no (M.2.1 9)) {k : Nat} (hk : k < P) : f_X2_loanOf n no (nI k) = some (M.2.1 9 (538 + k)) := by
  have h64 := h.P64
  unfold f_X2_loanOf
  rw [if_neg (nI_pos (by omega)), if_neg (show ¬ (64 : Int32) ≤ nI k from nI_ge (a := k) (b := 64) (by omega) (by decide)), egN (by omega) (by decide), eLet, nI_clamp (by omega), h.1.2.1.1 k hk]
theorem lk_page (hU : Ru P NP E Bs F Pt Ap ru M) (hRR : RR P NP D T LC CC FC no (M.2.1 9)) (v : Int32) : LK M (f_L_page n sv x ru no 1 p3 v) (f_X9_page n M v) := by
  have hR := hRR.1
  have h64 := hR.P64
  have hc : f_X8_page n sv x ru no v = if vb v P then bnd (f_X2_loanOf n no v) (fun (r_1 : Int32) => some (r_1, 0)) else some ((0 : Int32), 1) := by
    unfold f_X8_page
    rw [hU.1.1, nd3]
  have hm : f_X9_page n M v = if vb v P then gI 1846 ((538 : Int32) + v) (Let (M.2.1 9 ((538 : Int32) + v).toNatClampNeg) (fun x_4 : Int32 => some (sI M 0 0, x_4))) else some (sI M 0 1, (0 : Int32)) := by
    unfold f_X9_page
    rw [hU.2.1.1, in_pred v (by omega), ebnd, m_is, ebnd2, ifz]
    cases vb v P <;> rfl
  unfold f_L_page
  rw [hc, hm]
  cases hv : vb v P with
  | false => exact LK.no (p3 := p3) (k := 1) rfl (by decide) rfl (EqM.told M 1) rfl
  | true =>
    obtain ⟨k, hk, rfl⟩ := vb_ok (by omega) hv
    simp only [if_true]
    rw [c_loanOf hR hk, ebnd, ebnd2, if_pos rfl, ho0, ow_ix, rz (by omega)]
    exact LK.ok rfl rfl (EqM.told M 0) rfl
def lnv (m : Nat → Int32) (P l : Nat) : Nat → Int32
  | 0 => m (58 + 6 * l)
  | 1 => nI (pc m P (nI l))
  | 2 => m (58 + 6 * l + 1)
  | 3 => m (58 + 6 * l + 2)
  | 4 => m (58 + 6 * l + 3)
  | 5 => bI (bk m P l)
  | 6 => m (58 + 6 * l + 4)
  | _ => m (58 + 6 * l + 5)
theorem m_is1 : f_X9_is n M (1 : Int32) = some (sI M 0 0, 1) := rfl
theorem m_is0 : f_X9_is n M (0 : Int32) = some (sI M 0 1, 0) := rfl
theorem LK.b1 {oc : Option (Int32 × Nat)} {om : Option (OS × Int32)} {b : Bool} {val : Int32} (hc : oc = some (if b then (val, 0) else ((0 : Int32), 1))) (hm : om = some (if b then (sI M 0 0, val) else (sI M 0 1, (0 : Int32)))) : LK M (bnd2 oc (fun (r : Int32) (cd : Nat) => if cd = 0 then gI 1 (0 : Int32) (Let (vp_updL p3 (0 : Int32).toNatClampNeg r.toInt64) (fun p : Nat → Int64 => some (p, (0 : Int32)))) else if cd = 1 then some (p3, (1 : Int32)) else none)) om := by
  subst hc
  subst hm
  cases b
  · exact LK.no (p3 := p3) (k := 1) rfl (by decide) rfl (EqM.told M 1) rfl
  · refine LK.ok (p3 := p3) (r := val) ?_ rfl (EqM.told M 0) rfl
    show bnd2 (some (val, 0)) _ = _
    rw [ebnd2, if_pos rfl, ho0]
theorem LK.b4 {oc : Option (Int32 × Nat)} {om : Option (OS × Int32)} {b : Bool} {val : Int32} (hc : oc = some (if b then (val, 0) else ((0 : Int32), 4))) (hm : om = some (if b then (sI M 0 0, val) else (sI M 0 1, (0 : Int32)))) : LK M (bnd2 oc (fun (r : Int32) (cd : Nat) => if cd = 0 then gI 1 (0 : Int32) (Let (vp_updL p3 (0 : Int32).toNatClampNeg r.toInt64) (fun p : Nat → Int64 => some (p, (0 : Int32)))) else if cd = 4 then some (p3, (1 : Int32)) else none)) om := by
  subst hc
  subst hm
  cases b
  · exact LK.no (p3 := p3) (k := 1) rfl (by decide) rfl (EqM.told M 1) rfl
  · refine LK.ok (p3 := p3) (r := val) ?_ rfl (EqM.told M 0) rfl
    show bnd2 (some (val, 0)) _ = _
    rw [ebnd2, if_pos rfl, ho0]
theorem c_loanV (hR : R0 P NP D K T LC CC FC no (M.2.1 9)) {l j : Nat} (hlC : l < LC) (hj : j < 8) : (if nI j = (5 : Int32) then bnd (f_X2_isBroken n no (nI l)) (fun (r_3 : Int32) => if r_3 = 0 then some ((0 : Int32), 0) else some ((1 : Int32), 0)) else bnd (f_X6_get n (8 : Int32) 640 (no.2.1 12) (nI l) (nI j)) (fun (r_2 : Int32) => some (r_2, 0)) : Option (Int32 × Nat)) = some (lnv (M.2.1 9) P l j, 0) := by
  have h64 := hR.P64
  have hl : l < 80 := (c_get0 hR hlC).2
  obtain ⟨q0, q1, q2, q3, q4, q6, q7⟩ := hR.1.2.2.2.2.1 l hlC
  have hj2 : j = 0 ∨ j = 1 ∨ j = 2 ∨ j = 3 ∨ j = 4 ∨ j = 5 ∨ j = 6 ∨ j = 7 := by omega
  rcases hj2 with rfl | rfl | rfl | rfl | rfl | rfl | rfl | rfl
  · rw [show nI 0 = (0 : Int32) from rfl, if_neg (show ¬ (0 : Int32) = 5 from by decide), gL0 hl, ebnd, q0]; rfl
  · rw [show nI 1 = (1 : Int32) from rfl, if_neg (show ¬ (1 : Int32) = 5 from by decide), gL1 hl, ebnd, q1]; rfl
  · rw [show nI 2 = (2 : Int32) from rfl, if_neg (show ¬ (2 : Int32) = 5 from by decide), gL2 hl, ebnd, q2]; rfl
  · rw [show nI 3 = (3 : Int32) from rfl, if_neg (show ¬ (3 : Int32) = 5 from by decide), gL3 hl, ebnd, q3]; rfl
  · rw [show nI 4 = (4 : Int32) from rfl, if_neg (show ¬ (4 : Int32) = 5 from by decide), gL4 hl, ebnd, q4]; rfl
  · rw [show nI 5 = (5 : Int32) from rfl, if_pos (show (5 : Int32) = 5 from rfl), c_isBroken hR h64 hlC, ebnd, ifz]; cases hb : bk (M.2.1 9) P l <;> simp only [lnv, hb] <;> rfl
  · rw [show nI 6 = (6 : Int32) from rfl, if_neg (show ¬ (6 : Int32) = 5 from by decide), gL6 hl, ebnd, q6]; rfl
  · rw [show nI 7 = (7 : Int32) from rfl, if_neg (show ¬ (7 : Int32) = 5 from by decide), gL7 hl, ebnd, q7]; rfl
theorem m_loanV (hU : Ru P NP E Bs F Pt Ap ru M) (h64 : P ≤ 64) (hn : 100 < n) {l j : Nat} (hl : l < 80) (hj : j < 8) : j_X9_loan_26 n (nI l) (nI j) M 1 = some (sI M 0 0, lnv (M.2.1 9) P l j) := by
  unfold j_X9_loan_26
  rw [m_is1, ebnd2, if_neg (show ¬ (1 : Int32) = 0 from by decide)]
  have hj2 : j = 0 ∨ j = 1 ∨ j = 2 ∨ j = 3 ∨ j = 4 ∨ j = 5 ∨ j = 6 ∨ j = 7 := by omega
  rcases hj2 with rfl | rfl | rfl | rfl | rfl | rfl | rfl | rfl
  · rw [show nI 0 = (0 : Int32) from rfl, if_neg (show ¬ ((0 : Int32).toInt < 0 ∨ 6 < (0 : Int32).toInt) from by decide), if_pos (show (0 : Int32) = 0 from rfl), mL0 hl, ebnd]; rfl
  · rw [show nI 1 = (1 : Int32) from rfl, if_neg (show ¬ ((1 : Int32).toInt < 0 ∨ 6 < (1 : Int32).toInt) from by decide), if_neg (show ¬ (1 : Int32) = 0 from by decide), if_pos (show (1 : Int32) = 1 from rfl), m_pagesOf (M := sI M 0 0) hU.2.1.1 h64 hn, ebnd]; rfl
  · rw [show nI 2 = (2 : Int32) from rfl, if_neg (show ¬ ((2 : Int32).toInt < 0 ∨ 6 < (2 : Int32).toInt) from by decide), if_neg (show ¬ (2 : Int32) = 0 from by decide), if_neg (show ¬ (2 : Int32) = 1 from by decide), if_pos (show (2 : Int32) = 2 from rfl), mL1 hl, ebnd]; rfl
  · rw [show nI 3 = (3 : Int32) from rfl, if_neg (show ¬ ((3 : Int32).toInt < 0 ∨ 6 < (3 : Int32).toInt) from by decide), if_neg (show ¬ (3 : Int32) = 0 from by decide), if_neg (show ¬ (3 : Int32) = 1 from by decide), if_neg (show ¬ (3 : Int32) = 2 from by decide), if_pos (show (3 : Int32) = 3 from rfl), mL2 hl, ebnd]; rfl
  · rw [show nI 4 = (4 : Int32) from rfl, if_neg (show ¬ ((4 : Int32).toInt < 0 ∨ 6 < (4 : Int32).toInt) from by decide), if_neg (show ¬ (4 : Int32) = 0 from by decide), if_neg (show ¬ (4 : Int32) = 1 from by decide), if_neg (show ¬ (4 : Int32) = 2 from by decide), if_neg (show ¬ (4 : Int32) = 3 from by decide), if_pos (show (4 : Int32) = 4 from rfl), mL3 hl, ebnd]; rfl
  · rw [show nI 5 = (5 : Int32) from rfl, if_neg (show ¬ ((5 : Int32).toInt < 0 ∨ 6 < (5 : Int32).toInt) from by decide), if_neg (show ¬ (5 : Int32) = 0 from by decide), if_neg (show ¬ (5 : Int32) = 1 from by decide), if_neg (show ¬ (5 : Int32) = 2 from by decide), if_neg (show ¬ (5 : Int32) = 3 from by decide), if_neg (show ¬ (5 : Int32) = 4 from by decide), if_pos (show (5 : Int32) = 5 from rfl), m_isBroken (M := sI M 0 0) hU.2.1.1 h64 hn hl, ebnd, ifz]; show (if bk (M.2.1 9) P l then _ else _) = _; cases hb : bk (M.2.1 9) P l <;> simp only [lnv, hb] <;> rfl
  · rw [show nI 6 = (6 : Int32) from rfl, if_neg (show ¬ ((6 : Int32).toInt < 0 ∨ 6 < (6 : Int32).toInt) from by decide), if_neg (show ¬ (6 : Int32) = 0 from by decide), if_neg (show ¬ (6 : Int32) = 1 from by decide), if_neg (show ¬ (6 : Int32) = 2 from by decide), if_neg (show ¬ (6 : Int32) = 3 from by decide), if_neg (show ¬ (6 : Int32) = 4 from by decide), if_neg (show ¬ (6 : Int32) = 5 from by decide), mL4 hl, ebnd]; rfl
  · rw [show nI 7 = (7 : Int32) from rfl, if_pos (show ((7 : Int32).toInt < 0 ∨ 6 < (7 : Int32).toInt) from by decide), mL5 hl, ebnd]; rfl
theorem lk_loan (hU : Ru P NP E Bs F Pt Ap ru M) (hRR : RR P NP D T LC CC FC no (M.2.1 9)) (hn : 100 < n) (v w : Int32) : LK M (f_L_loan n sv x no 1 p3 v w) (f_X9_loan n M v w) := by
  have hR := hRR.1
  have h64 := hR.P64
  have h80 := hR.L80
  have hm : f_X9_loan n M v w = j_X9_loan_26 n v w M (bI (vb v LC && vb w 8)) := by
    unfold f_X9_loan
    rw [m_isLoan hR.mloans h80, ebnd, ifz]
    cases vb v LC
    · rfl
    · rw [if_pos rfl, show (7 : Int64) = (nI 7).toInt64 from by decide, in_to w 7 (by decide), ebnd, ifz]
      cases vb w 8 <;> rfl
  have hc : f_X8_loan n sv x no v w = if vb v LC then (if vb w 8 then (if w = (5 : Int32) then bnd (f_X2_isBroken n no v) (fun (r_3 : Int32) => if r_3 = 0 then some ((0 : Int32), 0) else some ((1 : Int32), 0)) else bnd (f_X6_get n (8 : Int32) 640 (no.2.1 12) v w) (fun (r_2 : Int32) => some (r_2, 0))) else some ((0 : Int32), 1)) else some ((0 : Int32), 1) := by
    unfold f_X8_loan
    rw [c_needLoan hR.loans, ebnd]
    cases vb v LC
    · rfl
    · rw [if_pos rfl, if_pos rfl, if_pos rfl, show (7 : Int32) = nI 7 from rfl, nd3e w 7 (by decide)]
  cases hv : vb v LC with
  | false =>
    rw [hv] at hc hm
    exact LK.b1 (b := false) (val := 0) hc hm
  | true =>
    cases hw : vb w 8 with
    | false =>
      rw [hv, hw] at hc hm
      exact LK.b1 (b := false) (val := 0) hc hm
    | true =>
      obtain ⟨l, hl, rfl⟩ := vb_ok (by omega) hv
      obtain ⟨j, hj, rfl⟩ := vb_ok (by decide) hw
      rw [hv, hw, if_pos rfl, if_pos rfl, c_loanV hR hl hj] at hc
      rw [hv, hw, show bI (true && true) = 1 from rfl, m_loanV hU h64 hn (by omega) hj] at hm
      exact LK.b1 (b := true) hc hm
/-! a process -/
def prv (m : Nat → Int32) (P LC CC p : Nat) : Nat → Int32
  | 0 => m (10 + 6 * p)
  | 1 => m (10 + 6 * p + 1)
  | 2 => m (10 + 6 * p + 2)
  | 3 => nI (fb_sm (fun l => if decide (m (58 + 6 * l) = nI p) then pc m P (nI l) else 0) LC)
  | 4 => nI (fb_ct (fun l => decide (m (58 + 6 * l) = nI p) && (if false then bk m P l else decide (0 < pc m P (nI l)))) LC)
  | 5 => nI (fb_ct (fun l => decide (m (58 + 6 * l) = nI p) && (if true then bk m P l else decide (0 < pc m P (nI l)))) LC)
  | 6 => nI (stp m (nI p) 0 CC)
  | 7 => nI (stp m (nI p) 1 CC)
  | 8 => m (10 + 6 * p + 4)
  | _ => m (10 + 6 * p + 5)
theorem ofp_one {m : Nat → Int32} {p l : Nat} (hp : p < 8) : ofp m (nI p) l = decide (m (58 + 6 * l) = nI p) := by
  unfold ofp
  rw [decide_eq_false (nI_m1 p (by omega)), Bool.false_or]
theorem c_processV (hR : R0 P NP D K T LC CC FC no (M.2.1 9)) (hU : Ru P NP E Bs F Pt Ap ru M) (hn : 100 < n) {p j : Nat} (hpN : p < NP) (hj : j < 10) : f_X8_process n sv x ru no (nI p) (nI j) = some (prv (M.2.1 9) P LC CC p j, 0) := by
  have h64 := hR.P64
  have hNP : NP ≤ 8 := hU.2.2.2.2.1
  have hp : p < 8 := by omega
  obtain ⟨q0, q1, q2, q3, q4⟩ := hR.1.2.2.2.1 p hp
  have hsm : fb_sm (fun l => if ofp (M.2.1 9) (nI p) l then pc (M.2.1 9) P (nI l) else 0) LC = fb_sm (fun l => if decide (M.2.1 9 (58 + 6 * l) = nI p) then pc (M.2.1 9) P (nI l) else 0) LC := fb_sm_cong fun l _ => by rw [ofp_one hp]
  have hop : fb_ct (fun l => decide (0 < pc (M.2.1 9) P (nI l)) && ofp (M.2.1 9) (nI p) l) LC = fb_ct (fun l => decide (M.2.1 9 (58 + 6 * l) = nI p) && (if false then bk (M.2.1 9) P l else decide (0 < pc (M.2.1 9) P (nI l)))) LC := fb_ct_cong fun l _ => by rw [ofp_one hp, Bool.and_comm]; rfl
  have hbr : fb_ct (fun l => bk (M.2.1 9) P l && ofp (M.2.1 9) (nI p) l) LC = fb_ct (fun l => decide (M.2.1 9 (58 + 6 * l) = nI p) && (if true then bk (M.2.1 9) P l else decide (0 < pc (M.2.1 9) P (nI l)))) LC := fb_ct_cong fun l _ => by rw [ofp_one hp, Bool.and_comm]; rfl
  unfold f_X8_process
  rw [c_needProcess hU, vb_in hpN (by omega), if_pos rfl, ebnd, if_pos rfl]
  have hj2 : j = 0 ∨ j = 1 ∨ j = 2 ∨ j = 3 ∨ j = 4 ∨ j = 5 ∨ j = 6 ∨ j = 7 ∨ j = 8 ∨ j = 9 := by omega
  rcases hj2 with rfl | rfl | rfl | rfl | rfl | rfl | rfl | rfl | rfl | rfl
  · rw [show nI 0 = (0 : Int32) from rfl, if_neg (show ¬ ((0 : Int32).toInt < 0 ∨ 9 < (0 : Int32).toInt) from by decide), if_pos (show (0 : Int32) = 0 from rfl), gP0 hp, ebnd, q0]; rfl
  · rw [show nI 1 = (1 : Int32) from rfl, if_neg (show ¬ ((1 : Int32).toInt < 0 ∨ 9 < (1 : Int32).toInt) from by decide), if_neg (show ¬ (1 : Int32) = 0 from by decide), if_pos (show (1 : Int32) = 1 from rfl), gP1 hp, ebnd, q1]; rfl
  · rw [show nI 2 = (2 : Int32) from rfl, if_neg (show ¬ ((2 : Int32).toInt < 0 ∨ 9 < (2 : Int32).toInt) from by decide), if_neg (show ¬ (2 : Int32) = 0 from by decide), if_neg (show ¬ (2 : Int32) = 1 from by decide), if_pos (show (2 : Int32) = 2 from rfl), gP2 hp, ebnd, q2]; rfl
  · rw [show nI 3 = (3 : Int32) from rfl, if_neg (show ¬ ((3 : Int32).toInt < 0 ∨ 9 < (3 : Int32).toInt) from by decide), if_neg (show ¬ (3 : Int32) = 0 from by decide), if_neg (show ¬ (3 : Int32) = 1 from by decide), if_neg (show ¬ (3 : Int32) = 2 from by decide), if_pos (show (3 : Int32) = 3 from rfl), c_heldPages hR hn, ebnd, hsm]; rfl
  · rw [show nI 4 = (4 : Int32) from rfl, if_neg (show ¬ ((4 : Int32).toInt < 0 ∨ 9 < (4 : Int32).toInt) from by decide), if_neg (show ¬ (4 : Int32) = 0 from by decide), if_neg (show ¬ (4 : Int32) = 1 from by decide), if_neg (show ¬ (4 : Int32) = 2 from by decide), if_neg (show ¬ (4 : Int32) = 3 from by decide), if_pos (show (4 : Int32) = 4 from rfl), c_openLoans hR h64 hn, ebnd, hop]; rfl
  · rw [show nI 5 = (5 : Int32) from rfl, if_neg (show ¬ ((5 : Int32).toInt < 0 ∨ 9 < (5 : Int32).toInt) from by decide), if_neg (show ¬ (5 : Int32) = 0 from by decide), if_neg (show ¬ (5 : Int32) = 1 from by decide), if_neg (show ¬ (5 : Int32) = 2 from by decide), if_neg (show ¬ (5 : Int32) = 3 from by decide), if_neg (show ¬ (5 : Int32) = 4 from by decide), if_pos (show (5 : Int32) = 5 from rfl), c_brokenLoans hR h64 hn, ebnd, hbr]; rfl
  · rw [show nI 6 = (6 : Int32) from rfl, if_neg (show ¬ ((6 : Int32).toInt < 0 ∨ 9 < (6 : Int32).toInt) from by decide), if_neg (show ¬ (6 : Int32) = 0 from by decide), if_neg (show ¬ (6 : Int32) = 1 from by decide), if_neg (show ¬ (6 : Int32) = 2 from by decide), if_neg (show ¬ (6 : Int32) = 3 from by decide), if_neg (show ¬ (6 : Int32) = 4 from by decide), if_neg (show ¬ (6 : Int32) = 5 from by decide), if_pos (show (6 : Int32) = 6 from rfl), c_claimsThat hR hn, ebnd, clm_one hp]; rfl
  · rw [show nI 7 = (7 : Int32) from rfl, if_neg (show ¬ ((7 : Int32).toInt < 0 ∨ 9 < (7 : Int32).toInt) from by decide), if_neg (show ¬ (7 : Int32) = 0 from by decide), if_neg (show ¬ (7 : Int32) = 1 from by decide), if_neg (show ¬ (7 : Int32) = 2 from by decide), if_neg (show ¬ (7 : Int32) = 3 from by decide), if_neg (show ¬ (7 : Int32) = 4 from by decide), if_neg (show ¬ (7 : Int32) = 5 from by decide), if_neg (show ¬ (7 : Int32) = 6 from by decide), if_pos (show (7 : Int32) = 7 from rfl), c_claimsThat hR hn, ebnd, clm_one hp]; rfl
  · rw [show nI 8 = (8 : Int32) from rfl, if_neg (show ¬ ((8 : Int32).toInt < 0 ∨ 9 < (8 : Int32).toInt) from by decide), if_neg (show ¬ (8 : Int32) = 0 from by decide), if_neg (show ¬ (8 : Int32) = 1 from by decide), if_neg (show ¬ (8 : Int32) = 2 from by decide), if_neg (show ¬ (8 : Int32) = 3 from by decide), if_neg (show ¬ (8 : Int32) = 4 from by decide), if_neg (show ¬ (8 : Int32) = 5 from by decide), if_neg (show ¬ (8 : Int32) = 6 from by decide), if_neg (show ¬ (8 : Int32) = 7 from by decide), if_pos (show (8 : Int32) = 8 from rfl), gP3 hp, ebnd, q3]; rfl
  · rw [show nI 9 = (9 : Int32) from rfl, if_neg (show ¬ ((9 : Int32).toInt < 0 ∨ 9 < (9 : Int32).toInt) from by decide), if_neg (show ¬ (9 : Int32) = 0 from by decide), if_neg (show ¬ (9 : Int32) = 1 from by decide), if_neg (show ¬ (9 : Int32) = 2 from by decide), if_neg (show ¬ (9 : Int32) = 3 from by decide), if_neg (show ¬ (9 : Int32) = 4 from by decide), if_neg (show ¬ (9 : Int32) = 5 from by decide), if_neg (show ¬ (9 : Int32) = 6 from by decide), if_neg (show ¬ (9 : Int32) = 7 from by decide), if_neg (show ¬ (9 : Int32) = 8 from by decide), gP4 hp, ebnd, q4]; rfl
theorem m_processV (hR : R0 P NP D K T LC CC FC no (M.2.1 9)) (hU : Ru P NP E Bs F Pt Ap ru M) (hn : 100 < n) {p j : Nat} (hp : p < 8) (hj : j < 10) : j_X9_process_26 n (nI p) (nI j) M 1 = some (sI M 0 0, prv (M.2.1 9) P LC CC p j) := by
  have himt := hR.2.2.2.2.1 p hp
  unfold j_X9_process_26
  rw [m_is1, ebnd2, if_neg (show ¬ (1 : Int32) = 0 from by decide)]
  have hj2 : j = 0 ∨ j = 1 ∨ j = 2 ∨ j = 3 ∨ j = 4 ∨ j = 5 ∨ j = 6 ∨ j = 7 ∨ j = 8 ∨ j = 9 := by omega
  rcases hj2 with rfl | rfl | rfl | rfl | rfl | rfl | rfl | rfl | rfl | rfl
  · unfold j_X9_process_84; rw [show nI 0 = (0 : Int32) from rfl, if_neg (show ¬ ((0 : Int32).toInt < 0 ∨ 8 < (0 : Int32).toInt) from by decide), if_pos (show (0 : Int32) = 0 from rfl), mP0 hp, ebnd]; rfl
  · unfold j_X9_process_84; rw [show nI 1 = (1 : Int32) from rfl, if_neg (show ¬ ((1 : Int32).toInt < 0 ∨ 8 < (1 : Int32).toInt) from by decide), if_neg (show ¬ (1 : Int32) = 0 from by decide), if_pos (show (1 : Int32) = 1 from rfl), mP1 hp, ebnd]; rfl
  · unfold j_X9_process_84; rw [show nI 2 = (2 : Int32) from rfl, if_neg (show ¬ ((2 : Int32).toInt < 0 ∨ 8 < (2 : Int32).toInt) from by decide), if_neg (show ¬ (2 : Int32) = 0 from by decide), if_neg (show ¬ (2 : Int32) = 1 from by decide), if_pos (show (2 : Int32) = 2 from rfl), mP2 hp, ebnd]; rfl
  · rw [show nI 3 = (3 : Int32) from rfl, if_neg (show ¬ ((3 : Int32).toInt < 0 ∨ 8 < (3 : Int32).toInt) from by decide), if_neg (show ¬ (3 : Int32) = 0 from by decide), if_neg (show ¬ (3 : Int32) = 1 from by decide), if_neg (show ¬ (3 : Int32) = 2 from by decide), if_pos (show (3 : Int32) = 3 from rfl), m_pagesOfAll (M := sI M 0 0) hR hU.2.1.1 hn, ebnd]; rfl
  · rw [show nI 4 = (4 : Int32) from rfl, if_neg (show ¬ ((4 : Int32).toInt < 0 ∨ 8 < (4 : Int32).toInt) from by decide), if_neg (show ¬ (4 : Int32) = 0 from by decide), if_neg (show ¬ (4 : Int32) = 1 from by decide), if_neg (show ¬ (4 : Int32) = 2 from by decide), if_neg (show ¬ (4 : Int32) = 3 from by decide), if_pos (show (4 : Int32) = 4 from rfl), show f_X9_loansOf n (sI M 0 0) (nI p) (0 : Int32) = f_X9_loansOf n (sI M 0 0) (nI p) (bI false) from rfl, m_loansOf (M := sI M 0 0) hR hU.2.1.1 hn, ebnd]; rfl
  · rw [show nI 5 = (5 : Int32) from rfl, if_neg (show ¬ ((5 : Int32).toInt < 0 ∨ 8 < (5 : Int32).toInt) from by decide), if_neg (show ¬ (5 : Int32) = 0 from by decide), if_neg (show ¬ (5 : Int32) = 1 from by decide), if_neg (show ¬ (5 : Int32) = 2 from by decide), if_neg (show ¬ (5 : Int32) = 3 from by decide), if_neg (show ¬ (5 : Int32) = 4 from by decide), if_pos (show (5 : Int32) = 5 from rfl), show f_X9_loansOf n (sI M 0 0) (nI p) (1 : Int32) = f_X9_loansOf n (sI M 0 0) (nI p) (bI true) from rfl, m_loansOf (M := sI M 0 0) hR hU.2.1.1 hn, ebnd]; rfl
  · rw [show nI 6 = (6 : Int32) from rfl, if_neg (show ¬ ((6 : Int32).toInt < 0 ∨ 8 < (6 : Int32).toInt) from by decide), if_neg (show ¬ (6 : Int32) = 0 from by decide), if_neg (show ¬ (6 : Int32) = 1 from by decide), if_neg (show ¬ (6 : Int32) = 2 from by decide), if_neg (show ¬ (6 : Int32) = 3 from by decide), if_neg (show ¬ (6 : Int32) = 4 from by decide), if_neg (show ¬ (6 : Int32) = 5 from by decide), if_pos (show (6 : Int32) = 6 from rfl), m_waitingOf (M := sI M 0 0) hR hn, ebnd]; rfl
  · rw [show nI 7 = (7 : Int32) from rfl, if_neg (show ¬ ((7 : Int32).toInt < 0 ∨ 8 < (7 : Int32).toInt) from by decide), if_neg (show ¬ (7 : Int32) = 0 from by decide), if_neg (show ¬ (7 : Int32) = 1 from by decide), if_neg (show ¬ (7 : Int32) = 2 from by decide), if_neg (show ¬ (7 : Int32) = 3 from by decide), if_neg (show ¬ (7 : Int32) = 4 from by decide), if_neg (show ¬ (7 : Int32) = 5 from by decide), if_neg (show ¬ (7 : Int32) = 6 from by decide), if_pos (show (7 : Int32) = 7 from rfl), mP3 hp, ebnd, show (sI M 0 0).2.1 9 = M.2.1 9 from rfl, himt]; rfl
  · rw [show nI 8 = (8 : Int32) from rfl, if_neg (show ¬ ((8 : Int32).toInt < 0 ∨ 8 < (8 : Int32).toInt) from by decide), if_neg (show ¬ (8 : Int32) = 0 from by decide), if_neg (show ¬ (8 : Int32) = 1 from by decide), if_neg (show ¬ (8 : Int32) = 2 from by decide), if_neg (show ¬ (8 : Int32) = 3 from by decide), if_neg (show ¬ (8 : Int32) = 4 from by decide), if_neg (show ¬ (8 : Int32) = 5 from by decide), if_neg (show ¬ (8 : Int32) = 6 from by decide), if_neg (show ¬ (8 : Int32) = 7 from by decide), mP4 hp, ebnd]; rfl
  · rw [show nI 9 = (9 : Int32) from rfl, if_pos (show ((9 : Int32).toInt < 0 ∨ 8 < (9 : Int32).toInt) from by decide), mP5 hp, ebnd]; rfl
theorem lk_process (hU : Ru P NP E Bs F Pt Ap ru M) (hRR : RR P NP D T LC CC FC no (M.2.1 9)) (hn : 100 < n) (v w : Int32) : LK M (f_L_process n sv x ru no 1 p3 v w) (f_X9_process n M v w) := by
  have hR := hRR.1
  have h64 := hR.P64
  have hNP : NP ≤ 8 := hU.2.2.2.2.1
  have hm : f_X9_process n M v w = j_X9_process_26 n v w M (bI (vb v NP && vb w 10)) := by
    unfold f_X9_process
    rw [m_isProcess hU, ebnd, ifz]
    cases vb v NP
    · rfl
    · rw [if_pos rfl, show (9 : Int64) = (nI 9).toInt64 from by decide, in_to w 9 (by decide), ebnd, ifz]
      cases vb w 10 <;> rfl
  cases hv : vb v NP with
  | false =>
    rw [hv] at hm
    refine LK.b1 (b := false) (val := 0) ?_ hm
    unfold f_X8_process
    rw [c_needProcess hU, hv]
    rfl
  | true =>
    cases hw : vb w 10 with
    | false =>
      rw [hv, hw] at hm
      refine LK.b1 (b := false) (val := 0) ?_ hm
      unfold f_X8_process
      rw [c_needProcess hU, hv, if_pos rfl, ebnd, if_pos rfl, if_pos (show (w.toInt < 0 ∨ 9 < w.toInt) from (sw_in (k := 9) (by decide)).mpr hw)]
      rfl
    | true =>
      obtain ⟨p, hp, rfl⟩ := vb_ok (by omega) hv
      obtain ⟨j, hj, rfl⟩ := vb_ok (by decide) hw
      rw [hv, hw, show bI (true && true) = 1 from rfl, m_processV hR hU hn (by omega) hj] at hm
      exact LK.b1 (b := true) (c_processV hR hU hn hp hj) hm
end FACE
