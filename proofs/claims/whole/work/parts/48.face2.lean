/-! the face: the other methods that look and may throw -/
/-- as LK, where the class may have laid a line into its court -/
def LKn (no M : OS) (o : Option (OS × (Nat → Int64) × Int32)) (o2 : Option (OS × Int32)) : Prop := ∃ no' p3 k M' b, o = some (no', p3, k) ∧ o2 = some (M', b) ∧ EqM M M' ∧ Cpy no no' ∧ M'.1 0 = k ∧ (k = 0 → p3 0 = b.toInt64)
/-- as LK, where the class works in its court of trials -/
def LKf (M : OS) (o : Option (OS × (Nat → Int64) × Int32)) (o2 : Option (OS × Int32)) : Prop := ∃ fo' p3 k M' b, o = some (fo', p3, k) ∧ o2 = some (M', b) ∧ EqM M M' ∧ M'.1 0 = k ∧ (k = 0 → p3 0 = b.toInt64)
/-- as LK, where the answer is yes or no -/
def LKB (M : OS) (o : Option ((Nat → Int64) × Int32)) (o2 : Option (OS × Int32)) : Prop := ∃ p3 k M' B, o = some (p3, k) ∧ o2 = some (M', bI B) ∧ EqM M M' ∧ M'.1 0 = k ∧ (k = 0 → p3 0 = (bI B).toInt64)
theorem shr3 (t : Int32) : (t >>> ((3 : Int32) &&& 31)).toInt = t.toInt / 8 := by
  have e : (t >>> ((3 : Int32) &&& 31)).toInt = (t.toBitVec.sshiftRight (((3 : Int32) &&& 31).toBitVec.smod 32).toNat).toInt := rfl
  have k : (((3 : Int32) &&& 31).toBitVec.smod 32).toNat = 3 := by decide
  rw [e, k, BitVec.toInt_sshiftRight, Int.shiftRight_eq_div_pow]
  rfl
section FACE2
variable {P NP D K T LC CC FC E Bs F Pt Ap n : Nat} {no ru M x : OS} {sv : Value} {p3 : Nat → Int64}
theorem c_claimV (hR : R0 P NP D K T LC CC FC no (M.2.1 9)) {q j : Nat} (hq : q < CC) (hj : j < 7) : f_X6_get n (7 : Int32) 420 (no.2.1 13) (nI q) (nI j) = some (M.2.1 9 (602 + 7 * q + j)) := by
  have h60 := hR.C60
  have k := tget (n := n) (cc := 7) (z := 420) (v := q) (j := j) (t := no.2.1 13) (7 * q + j) (by omega) (by omega) (by decide)
  rw [hR.1.2.2.2.2.2.1 q hq j hj] at k
  exact k
theorem lk_claim (hU : Ru P NP E Bs F Pt Ap ru M) (hRR : RR P NP D T LC CC FC no (M.2.1 9)) (v w : Int32) : LK M (f_L_claim n sv x no 1 p3 v w) (f_X9_claim n M v w) := by
  have hR := hRR.1
  have h60 := hR.C60
  have hm : f_X9_claim n M v w = j_X9_claim_26 n v w M (bI (vb v CC && vb w 7)) := by
    unfold f_X9_claim
    rw [m_isClaim hR.mclaims h60, ebnd, ifz]
    cases vb v CC
    · rfl
    · rw [if_pos rfl, show (6 : Int64) = (nI 6).toInt64 from by decide, in_to w 6 (by decide), ebnd, ifz]
      cases vb w 7 <;> rfl
  have hc : f_X8_claim n sv x no v w = if vb v CC then (if vb w 7 then bnd (f_X6_get n (7 : Int32) 420 (no.2.1 13) v w) (fun (r_2 : Int32) => some (r_2, 0)) else some ((0 : Int32), 1)) else some ((0 : Int32), 1) := by
    unfold f_X8_claim
    rw [c_needClaim hR.claims, ebnd]
    cases vb v CC
    · rfl
    · rw [if_pos rfl, if_pos rfl, if_pos rfl, show (6 : Int32) = nI 6 from rfl, nd3e w 6 (by decide)]
  cases hv : vb v CC with
  | false =>
    rw [hv] at hc hm
    exact LK.b1 (b := false) (val := 0) hc hm
  | true =>
    cases hw : vb w 7 with
    | false =>
      rw [hv, hw] at hc hm
      exact LK.b1 (b := false) (val := 0) hc hm
    | true =>
      obtain ⟨q, hq, rfl⟩ := vb_ok (by omega) hv
      obtain ⟨j, hj, rfl⟩ := vb_ok (by decide) hw
      rw [hv, hw, if_pos rfl, if_pos rfl, c_claimV hR hq hj, ebnd] at hc
      rw [hv, hw, show bI (true && true) = 1 from rfl] at hm
      refine LK.b1 (b := true) hc (hm.trans ?_)
      unfold j_X9_claim_26
      rw [m_is1, ebnd2, if_neg (show ¬ (1 : Int32) = 0 from by decide), m_cl (by omega) hj, ebnd]
      rfl
theorem lk_waiting (hU : Ru P NP E Bs F Pt Ap ru M) (hRR : RR P NP D T LC CC FC no (M.2.1 9)) (hn : 100 < n) (v : Int32) : LKn no M (f_L_waiting n sv x no 1 p3 v) (f_X9_waiting n M v) := by
  have hR := hRR.1
  have h60 := hR.C60
  have hNP : NP ≤ 8 := hU.2.2.2.2.1
  obtain ⟨k, f, w, u, a1, a2, a3, a4, _⟩ := lineUp (n := n) hR hNP hn
  have hk : k ≤ 60 := by
    have : fb_ct (wt (M.2.1 9)) CC ≤ CC := fb_ct_le _ _
    omega
  have hcp : Cpy no (sA no 15 w) := ⟨fun _ _ => rfl, fun _ _ => rfl, fun _ _ => rfl, fun _ _ => rfl, fun _ _ => rfl, fun _ _ => rfl, fun _ _ => rfl⟩
  have heq : ∀ b : Int32, EqM M (sI (sA M 21 u) 0 b) := fun b => ⟨fun j h _ _ => sI_o h, fun j _ _ _ h => sA_o h, fun _ _ => rfl, rfl⟩
  unfold f_L_waiting f_X8_waiting f_X9_waiting
  rw [a1, ebnd2, nd3, a2, ebnd2, in_pred v (by omega), ebnd, m_is, ebnd2, ifz]
  cases hv : vb v k with
  | false => exact ⟨sA no 15 w, p3, 1, _, 0, rfl, rfl, heq 1, hcp, rfl, fun h => absurd h (by decide)⟩
  | true =>
    obtain ⟨j, hj, rfl⟩ := vb_ok (by omega) hv
    have hin : f_X2_inLine n (sA no 15 w) (nI j) = some (nI (f j)) := by
      unfold f_X2_inLine
      rw [if_neg (nI_pos (by omega)), if_neg (show ¬ (60 : Int32) ≤ nI j from nI_ge (a := j) (b := 60) (by omega) (by decide)), egN (by omega) (by decide), eLet, nI_clamp (by omega), sA_get, (a4 j hj).1]
    rw [if_pos rfl, if_pos rfl, hin, ebnd, ebnd3, if_pos rfl, ho0, egN (by omega) (by decide), eLet, nI_clamp (by omega)]
    refine ⟨sA no 15 w, _, 0, _, nI (f j), rfl, ?_, heq 0, hcp, rfl, fun _ => pk_uLs⟩
    rw [show (sI (sA M 21 u) 0 (bI (!true))).2.1 21 j = nI (f j) from by rw [sI_2, sA_get]; exact (a4 j hj).2.1]
    rfl
theorem lk_fine (hU : Ru P NP E Bs F Pt Ap ru M) (hRR : RR P NP D T LC CC FC no (M.2.1 9)) (v w : Int32) : LK M (f_L_fine n sv x no 1 p3 v w) (f_X9_fine n M v w) := by
  have hR := hRR.1
  have hF := hR.mfines
  unfold f_L_fine f_X8_fine f_X9_fine
  rw [show (7 : Int32) = nI 7 from rfl, nd3e w 7 (by decide), show (7 : Int64) = (nI 7).toInt64 from by decide, in_to w 7 (by decide), ebnd, m_is, ebnd2, ifz, c_needFine hF.2.1 (by omega), ebnd]
  cases hw : vb w (7 + 1) with
  | false => exact LK.no (p3 := p3) (k := 1) rfl (by decide) rfl (EqM.told M 1) rfl
  | true =>
    rw [if_pos rfl, if_pos rfl, m_isKnown (M := sI M 0 (bI (!true))) hF.1 (by omega), ebnd, m_may, ebnd2, ifz]
    cases hk : kn v FC with
    | false => exact LK.no (p3 := p3) (k := 2) rfl (by decide) rfl ((EqM.told M 0).tr (EqM.told _ 2)) rfl
    | true =>
      obtain ⟨f, hf, _, rfl, h4⟩ := kn_ok (by omega) hk
      obtain ⟨j, hj, rfl⟩ := vb_ok (by decide) hw
      rw [if_pos rfl, if_pos rfl, if_pos rfl, c_ofFine hR h4 (by omega) hj, ebnd, ebnd2, if_pos rfl, ho0, m_fn (by omega) hj, ebnd]
      exact LK.ok (p3 := p3) rfl rfl ((EqM.told M 0).tr (EqM.told _ 0)) rfl
theorem lk_evidence (hU : Ru P NP E Bs F Pt Ap ru M) (hRR : RR P NP D T LC CC FC no (M.2.1 9)) (hn : 2500 < n) (v : Int32) : LK M (f_L_evidence n sv x no 1 p3 v) (f_X9_evidence n M v) := by
  have hR := hRR.1
  have hF := hR.mfines
  have hNP : NP ≤ 8 := hU.2.2.2.2.1
  have hc : f_X8_evidence n sv x no v = if kn v FC then bnd (f_X2_evidenceFor n no v) (fun (r_2 : Int32) => some (r_2, 0)) else some ((0 : Int32), 4) := by
    unfold f_X8_evidence
    rw [c_needFine hF.2.1 (by omega), ebnd]
    cases kn v FC <;> rfl
  have hm : f_X9_evidence n M v = if kn v FC then bnd (f_X9_evidenceFor n (sI M 0 0) v) (fun (r_4 : Int32) => some (sI M 0 0, r_4)) else some (sI M 0 1, (0 : Int32)) := by
    unfold f_X9_evidence
    rw [m_isKnown hF.1 (by omega), ebnd, m_is, ebnd2, ifz]
    cases kn v FC <;> rfl
  cases hk : kn v FC with
  | false =>
    rw [hk] at hc hm
    exact LK.b4 (b := false) (val := 0) hc hm
  | true =>
    obtain ⟨f, hf, _, rfl, h4⟩ := kn_ok (by omega) hk
    obtain ⟨p, w, b, e, a, g1, g2, g3, g4, g5, g6, g7, g8, g9, g10⟩ := fine_row hR h4 (by omega)
    rw [hk, if_pos rfl, c_evidence hR hNP hn h4 (by omega) g1 g3 g4 g6 g8 g9, ebnd] at hc
    rw [hk, if_pos rfl, m_evidence (M := sI M 0 0) hR hNP hn (by omega) g1 g3 g4 g6 g8 g9, ebnd] at hm
    exact LK.b4 (b := true) hc hm
/-- a process, a tick of any kind: stalled there or not -/
theorem stalledAny (hRR : RR P NP D T LC CC FC no (M.2.1 9)) {p : Nat} (hp : p < 8) (t : Int32) : ∃ B : Bool, f_X2_stalledIn n no (nI p) t = some (bI B) ∧ (if vb (t - 1) T then f_X9_wasStalledIn n M (nI p) t else some (0 : Int32)) = some (bI B) ∧ (decide ((1 : Int32) ≤ t) && decide (t ≤ nI T)) = vb (t - 1) T := by
  have hR := hRR.1
  have hT := hR.time.2.2
  have hst := hR.1.2.2.2.2.2.2.2 p hp
  have rg := fb_rng t
  have e8 := shr3 t
  have l1 : (t - (1 : Int32) < nI T) ↔ (t.toInt - 1 < T ∨ t.toInt = -2147483648) ∧ t.toInt ≠ -2147483648 ∨ (t.toInt = -2147483648 ∧ (2147483647 : Int) < T) := by
    by_cases h : t.toInt = -2147483648
    · have : t = -2147483648 := (fa_eq _ _).mpr h
      subst this
      have k : ¬ ((-2147483648 : Int32) - 1 < nI T) := by
        rw [fa_lt, nI_toInt (by omega), show ((-2147483648 : Int32) - 1).toInt = 2147483647 from by decide]
        omega
      exact ⟨fun z => absurd z k, fun z => by omega⟩
    · have e1 : (t - (1 : Int32)).toInt = t.toInt - 1 := fb_subI (by rw [show (1 : Int32).toInt = 1 from by decide]; omega) (by rw [show (1 : Int32).toInt = 1 from by decide]; omega)
      rw [fa_lt, e1, nI_toInt (by omega)]
      omega
  have l0 : ((0 : Int32) ≤ t - 1) ↔ (1 ≤ t.toInt ∨ t.toInt = -2147483648) := by
    by_cases h : t.toInt = -2147483648
    · have : t = -2147483648 := (fa_eq _ _).mpr h
      subst this
      exact ⟨fun _ => Or.inr (by decide), fun _ => by decide⟩
    · have e1 : (t - (1 : Int32)).toInt = t.toInt - 1 := fb_subI (by rw [show (1 : Int32).toInt = 1 from by decide]; omega) (by rw [show (1 : Int32).toInt = 1 from by decide]; omega)
      rw [fa_le, e1, show (0 : Int32).toInt = 0 from by decide]
      omega
  have hin : (decide ((1 : Int32) ≤ t) && decide (t ≤ nI T)) = vb (t - 1) T := by
    unfold vb
    rw [Bool.eq_iff_iff, Bool.and_eq_true, Bool.and_eq_true, decide_eq_true_eq, decide_eq_true_eq, decide_eq_true_eq, decide_eq_true_eq, l0, l1, fa_le, fa_le, nI_toInt (by omega), show (1 : Int32).toInt = 1 from by decide]
    omega
  have out : ∀ (B : Bool), vb (t - 1) T = false → f_X2_stalledIn n no (nI p) t = some (bI B) → B = false → ∃ B : Bool, f_X2_stalledIn n no (nI p) t = some (bI B) ∧ (if vb (t - 1) T then f_X9_wasStalledIn n M (nI p) t else some (0 : Int32)) = some (bI B) ∧ (decide ((1 : Int32) ≤ t) && decide (t ≤ nI T)) = vb (t - 1) T := fun B h1 h2 h3 => by
    subst h3
    refine ⟨false, h2, ?_, hin⟩
    rw [h1]
    rfl
  rcases pk_ix t (n := 2008) (by omega) with h | h | ⟨j, hj, rfl⟩
  · have hneg : t.toInt < 0 := by
      rw [fa_lt] at h
      exact h
    refine out false ?_ ?_ rfl
    · rw [← hin, decide_eq_false (show ¬ (1 : Int32) ≤ t by rw [fa_le, show (1 : Int32).toInt = 1 from by decide]; omega)]
      rfl
    · unfold f_X2_stalledIn
      rw [eLet, if_pos (show t >>> ((3 : Int32) &&& 31) < 0 by rw [fa_lt, e8, show (0 : Int32).toInt = 0 from by decide]; omega)]
      rfl
  · have hbig : 2008 ≤ t.toInt := by
      rw [fa_le, nI_toInt (by omega)] at h
      exact h
    refine out false ?_ ?_ rfl
    · rw [← hin, decide_eq_false (show ¬ t ≤ nI T by rw [fa_le, nI_toInt (by omega)]; omega), Bool.and_false]
    · unfold f_X2_stalledIn
      rw [eLet, if_neg (show ¬ t >>> ((3 : Int32) &&& 31) < 0 by rw [fa_lt, e8, show (0 : Int32).toInt = 0 from by decide]; omega), if_pos (show (251 : Int32) ≤ t >>> ((3 : Int32) &&& 31) by rw [fa_le, e8, show (251 : Int32).toInt = 251 from by decide]; omega)]
      rfl
  · by_cases hjT : 1 ≤ j ∧ j ≤ T
    · refine ⟨mb (M.2.1 9) p j, ?_, ?_, hin⟩
      · rw [c_stalledIn hp hj, hst.1 j (by omega)]
      · rw [← hin, decide_eq_true (show (1 : Int32) ≤ nI j from nI_le (a := 1) hjT.1 (by omega)), decide_eq_true (nI_le hjT.2 (by omega))]
        rw [show (true && true) = true from rfl, if_pos rfl, m_wasStalledIn hp (by omega)]
    · refine out (cb no p j) ?_ (c_stalledIn hp hj) (hst.2 j hj (by omega))
      rw [← hin]
      by_cases h1 : 1 ≤ j
      · rw [decide_eq_false (show ¬ nI j ≤ nI T from nI_ge (a := T) (b := j) (by omega) (by omega)), Bool.and_false]
      · rw [show j = 0 by omega]
        rfl
theorem lk_wasStalled (hU : Ru P NP E Bs F Pt Ap ru M) (hRR : RR P NP D T LC CC FC no (M.2.1 9)) (v w : Int32) : LKB M (f_L_wasStalled n sv x ru no 1 p3 v w) (f_X9_wasStalled n M v w) := by
  have hR := hRR.1
  have hNP : NP ≤ 8 := hU.2.2.2.2.1
  unfold f_L_wasStalled f_X8_wasStalled f_X9_wasStalled
  rw [c_needProcess hU, ebnd, m_isProcess hU, ebnd, m_is, ebnd2, ifz]
  cases hv : vb v NP with
  | false => exact ⟨p3, 1, _, false, rfl, rfl, EqM.told M 1, rfl, fun h => absurd h (by decide)⟩
  | true =>
    obtain ⟨p, hp, rfl⟩ := vb_ok (by omega) hv
    obtain ⟨B, h1, h2, h3⟩ := stalledAny (n := n) (M := sI M 0 0) hRR (p := p) (by omega) w
    rw [if_pos rfl, if_pos rfl, if_pos rfl, h1, ebnd, egZ, ebnd2, if_pos rfl, gz0, show (sI M 0 (bI (!true))).2.1 9 0 = nI T from hR.time.1, show (1 : Int64) = (1 : Int32).toInt64 from by decide, in32, ebnd, ifz, h3]
    have h4 : (if vb (w - 1) T = true then bnd (f_X9_wasStalledIn n (sI M 0 (bI (!true))) (nI p) w) (fun (r_6 : Int32) => if r_6 = 0 then some (sI M 0 (bI (!true)), (0 : Int32)) else some (sI M 0 (bI (!true)), (1 : Int32))) else some (sI M 0 (bI (!true)), (0 : Int32))) = some (sI M 0 0, bI B) := by
      cases h5 : vb (w - 1) T with
      | false =>
        rw [h5] at h2
        have h6 : (0 : Int32) = bI B := Option.some.inj h2
        show some (sI M 0 0, (0 : Int32)) = _
        rw [h6]
      | true =>
        rw [h5, if_pos rfl] at h2
        rw [if_pos rfl, show f_X9_wasStalledIn n (sI M 0 (bI (!true))) (nI p) w = some (bI B) from h2, ebnd, ifz]
        cases B <;> rfl
    rw [ifz, h4]
    cases B
    · rw [if_neg (by decide), show (0 : Int64) = (bI false).toInt64 from by decide, ho0]
      exact ⟨_, 0, _, false, rfl, rfl, EqM.told M 0, rfl, fun _ => pk_uLs⟩
    · rw [if_pos rfl, show ((1 : Int32).toInt64) = (bI true).toInt64 from rfl, ho0]
      exact ⟨_, 0, _, true, rfl, rfl, EqM.told M 0, rfl, fun _ => pk_uLs⟩
theorem lk_pageOf (hU : Ru P NP E Bs F Pt Ap ru M) (hRR : RR P NP D T LC CC FC no (M.2.1 9)) (hn : 100 < n) (v w : Int32) : LK M (f_L_pageOf n sv x no 1 p3 v w) (f_X9_pageOf n M v w) := by
  have hR := hRR.1
  have h80 := hR.L80
  have h64 := hR.P64
  unfold f_L_pageOf f_X8_pageOf f_X9_pageOf
  rw [c_needLoan hR.loans, ebnd, m_isLoan hR.mloans h80, ebnd, m_is, ebnd2, ifz]
  cases hv : vb v LC with
  | false => exact LK.no (p3 := p3) (k := 1) rfl (by decide) rfl (EqM.told M 1) rfl
  | true =>
    obtain ⟨l, hl, rfl⟩ := vb_ok (by omega) hv
    have hpc := pc_le (M.2.1 9) P (nI l)
    rw [if_pos rfl, if_pos rfl, if_pos rfl, m_pagesOf (M := sI M 0 (bI (!true))) hU.2.1.1 h64 hn, ebnd, show (sI M 0 (bI (!true))).2.1 9 = M.2.1 9 from rfl, in_pred w (by omega), ebnd, m_may, ebnd2, ifz]
    cases hw : vb w (pc (M.2.1 9) P (nI l)) with
    | false =>
      rw [c_pageAt_out hR hn (by omega) hw, ebnd, if_pos rfl, ebnd2]
      exact LK.no (p3 := p3) (k := 2) rfl (by decide) rfl ((EqM.told M 0).tr (EqM.told _ 2)) rfl
    | true =>
      obtain ⟨j, hj, rfl⟩ := vb_ok (by omega) hw
      obtain ⟨k, k1, k2, k3⟩ := fb_ct_kth hj
      have k4 : M.2.1 9 (538 + k) = nI l := of_decide_eq_true k2
      have k5 : pcu (M.2.1 9) l k = j := k3
      have c1 := c_pageAt_in hR hn (show l < 80 by omega) k1 k4
      have m1 := m_pageOf_loop (M := sI (sI M 0 0) 0 0) hn (show k < 64 by omega) k4
      rw [k5] at c1
      rw [show (sI (sI M 0 0) 0 0).2.1 9 = M.2.1 9 from rfl, k5] at m1
      rw [c1, ebnd, if_neg (nI_m1 k (by omega)), ebnd2, if_pos rfl, ho0, if_pos rfl]
      exact LK.ok (p3 := p3) rfl m1 ((EqM.told M 0).tr (EqM.told _ 0)) rfl
theorem lk_pieces (hU : Ru P NP E Bs F Pt Ap ru M) (hRR : RR P NP D T LC CC FC no (M.2.1 9)) (hn : 100 < n) (v : Int32) : LK M (f_L_pieces n sv x no 1 p3 v) (f_X9_pieces n M v) := by
  have hR := hRR.1
  have h80 := hR.L80
  have h64 := hR.P64
  unfold f_L_pieces f_X8_pieces f_X9_pieces
  rw [c_needLoan hR.loans, ebnd, m_isLoan hR.mloans h80, ebnd, m_is, ebnd2, ifz]
  cases hv : vb v LC with
  | false => exact LK.no (p3 := p3) (k := 1) rfl (by decide) rfl (EqM.told M 1) rfl
  | true =>
    obtain ⟨l, hl, rfl⟩ := vb_ok (by omega) hv
    rw [if_pos rfl, if_pos rfl, if_pos rfl, c_rowsOf hR hn (by omega), ebnd, ebnd2, if_pos rfl, ho0, m_pieces_loop (M := sI M 0 (bI (!true))) hU.2.1.1 h64 hn]
    exact LK.ok (p3 := p3) rfl rfl (EqM.told M 0) rfl
/-! appeals, as they are looked at -/
theorem c_lessBy (hR : R0 P NP D K T LC CC FC no (M.2.1 9)) {f b e a g : Nat} (h4 : f % 40 < FC) (hf : f < 2 ^ 31) (hbe : b < e) (he : e ≤ 2000) (ha : a ≤ 200) (hg : g ≤ e - b) (g8 : M.2.1 9 (1022 + 8 * (f % 40) + 3) = nI b) (g9 : M.2.1 9 (1022 + 8 * (f % 40) + 4) = nI e) (g10 : M.2.1 9 (1022 + 8 * (f % 40) + 5) = nI a) : f_X2_lessBy n no (nI f) (nI g) = some (nI a - nI ((a * (e - b - g) + (e - b) - 1) / (e - b))) := by
  have hx : a * (e - b - g) ≤ 200 * 2000 := Nat.mul_le_mul ha (by omega)
  have k5 : f_X2_ofFine n no (nI f) (5 : Int32) = some (nI a) := (c_ofFine (j := 5) hR h4 hf (by decide)).trans (congrArg some g10)
  have k4 : f_X2_ofFine n no (nI f) (4 : Int32) = some (nI e) := (c_ofFine (j := 4) hR h4 hf (by decide)).trans (congrArg some g9)
  have k3 : f_X2_ofFine n no (nI f) (3 : Int32) = some (nI b) := (c_ofFine (j := 3) hR h4 hf (by decide)).trans (congrArg some g8)
  unfold f_X2_lessBy
  rw [k5, ebnd, k4, ebnd, k3, ebnd, eLet, pk_sub (show b ≤ e by omega), pk_sub hg, pk_mul, c_quotientUp (by omega) (by omega), ebnd]
theorem m_lessBy (hR : R0 P NP D K T LC CC FC no (M.2.1 9)) (hNP : NP ≤ 8) (hn : 2500 < n) {f p b e a : Nat} (hf : f < 2 ^ 31) (hp : p < NP) (hbe : b < e) (he : e ≤ T) (ha : a ≤ 200) (g6 : M.2.1 9 (1022 + 8 * (f % 40)) = nI p) (g8 : M.2.1 9 (1022 + 8 * (f % 40) + 3) = nI b) (g9 : M.2.1 9 (1022 + 8 * (f % 40) + 4) = nI e) (g10 : M.2.1 9 (1022 + 8 * (f % 40) + 5) = nI a) : f_X9_lessBy n M (nI f) = some (nI a - nI ((a * (e - b - evd (M.2.1 9) p b e) + (e - b) - 1) / (e - b))) := by
  have hT := hR.time.2.2
  have hg := evd_le (M.2.1 9) p b e
  have hx : a * (e - b - evd (M.2.1 9) p b e) ≤ 200 * 2000 := Nat.mul_le_mul ha (by omega)
  have kl : f_X9_lengthOf n M (nI f) = some (nI (e - b)) := by
    unfold f_X9_lengthOf
    rw [mF4 hf, ebnd, mF3 hf, ebnd, g9, g8, pk_sub (show b ≤ e by omega)]
  unfold f_X9_lessBy
  rw [mF5 hf, ebnd, g10, kl, ebnd, m_evidence hR hNP hn hf hp hbe he g6 g8 g9, ebnd, ebnd, pk_sub hg, pk_mul, m_upwards (by omega) (by omega), ebnd]
def apb (m : Nat → Int32) (r Ap T e : Nat) : Bool := decide (m (1022 + 8 * r + 6) = 0) && !(decide (e + Ap < T))
theorem c_appealable (hR : R0 P NP D K T LC CC FC no (M.2.1 9)) (hA : Ap ≤ 1000) {f e : Nat} (h4 : f % 40 < FC) (hf : f < 2 ^ 31) (he : e ≤ T) (g9 : M.2.1 9 (1022 + 8 * (f % 40) + 4) = nI e) : f_X2_isAppealable n no (nI f) (nI Ap) = some (bI (apb (M.2.1 9) (f % 40) Ap T e)) := by
  have hT := hR.time
  have k6 : f_X2_ofFine n no (nI f) (6 : Int32) = some (M.2.1 9 (1022 + 8 * (f % 40) + 6)) := c_ofFine (j := 6) hR h4 hf (by decide)
  have k4 : f_X2_ofFine n no (nI f) (4 : Int32) = some (nI e) := (c_ofFine (j := 4) hR h4 hf (by decide)).trans (congrArg some g9)
  unfold f_X2_isAppealable apb
  rw [k6, ebnd]
  by_cases h : M.2.1 9 (1022 + 8 * (f % 40) + 6) = 0
  · rw [if_pos h, decide_eq_true h, k4, ebnd, hT.2.1, pk_sub he]
    by_cases h2 : e + Ap < T
    · rw [if_pos (nI_lt (by omega) (by omega)), decide_eq_true h2]
      rfl
    · rw [if_neg (nI_nlt (by omega) (by omega)), decide_eq_false h2]
      rfl
  · rw [if_neg h, decide_eq_false h]
    rfl
theorem m_canAppeal (hR : R0 P NP D K T LC CC FC no (M.2.1 9)) (hA : Ap ≤ 1000) (hMA : M.1 7 = nI Ap) {f e : Nat} (hf : f < 2 ^ 31) (he : e ≤ T) (g9 : M.2.1 9 (1022 + 8 * (f % 40) + 4) = nI e) : f_X9_canAppeal n M (nI f) = some (bI (apb (M.2.1 9) (f % 40) Ap T e)) := by
  have hT := hR.time
  unfold f_X9_canAppeal apb
  rw [mF6 hf, ebnd]
  by_cases h : M.2.1 9 (1022 + 8 * (f % 40) + 6) = 0
  · rw [if_pos h, decide_eq_true h, gz0, hT.1, mF4 hf, ebnd, g9, hMA, nI_add]
    by_cases h2 : e + Ap < T
    · rw [if_pos (nI_lt (by omega) (by omega)), decide_eq_true h2]
      rfl
    · rw [if_neg (nI_nlt (by omega) (by omega)), decide_eq_false h2]
      rfl
  · rw [if_neg h, decide_eq_false h]
    rfl
theorem lk_wouldAppeal (hU : Ru P NP E Bs F Pt Ap ru M) (hRR : RR P NP D T LC CC FC no (M.2.1 9)) (hA : Ap ≤ 1000) (hn : 2500 < n) (v : Int32) : LK M (f_L_wouldAppeal n sv x ru no 1 p3 v) (f_X9_wouldAppeal n M v) := by
  have hR := hRR.1
  have hF := hR.mfines
  have hT := hR.time.2.2
  have hNP : NP ≤ 8 := hU.2.2.2.2.1
  have hc : f_X8_wouldAppeal n sv x ru no v = if kn v FC then bnd (f_X2_isAppealable n no v (nI Ap)) (fun (r_2 : Int32) => if r_2 = 0 then some ((-1 : Int32), 0) else bnd (f_X2_evidenceFor n no v) (fun (r_3 : Int32) => bnd (f_X2_lessBy n no v r_3) (fun (r_4 : Int32) => some (r_4, 0)))) else some ((0 : Int32), 4) := by
    unfold f_X8_wouldAppeal
    rw [c_needFine hF.2.1 (by omega), ebnd, hU.1.2.2.2.2.2.2]
    cases kn v FC <;> rfl
  have hm : f_X9_wouldAppeal n M v = if kn v FC then bnd (f_X9_canAppeal n (sI M 0 0) v) (fun (r_4 : Int32) => if r_4 = 0 then some (sI M 0 0, (-1 : Int32)) else bnd (f_X9_lessBy n (sI M 0 0) v) (fun (r_5 : Int32) => some (sI M 0 0, r_5))) else some (sI M 0 1, (0 : Int32)) := by
    unfold f_X9_wouldAppeal
    rw [m_isKnown hF.1 (by omega), ebnd, m_is, ebnd2, ifz]
    cases kn v FC <;> rfl
  cases hk : kn v FC with
  | false =>
    rw [hk] at hc hm
    exact LK.b4 (b := false) (val := 0) hc hm
  | true =>
    obtain ⟨f, hf, _, rfl, h4⟩ := kn_ok (by omega) hk
    obtain ⟨p, w, b, e, a, g1, g2, g3, g4, g5, g6, g7, g8, g9, g10⟩ := fine_row hR h4 (by omega)
    have k1 := c_appealable (n := n) hR hA h4 (show f < 2 ^ 31 by omega) g4 g9
    have k2 := m_canAppeal (n := n) (M := sI M 0 0) hR hA hU.2.1.2.2.2.2.2.2 (show f < 2 ^ 31 by omega) g4 g9
    have k3 := c_lessBy (n := n) hR h4 (show f < 2 ^ 31 by omega) g3 (by omega) g5 (evd_le (M.2.1 9) p b e) g8 g9 g10
    have k4 := m_lessBy (n := n) (M := sI M 0 0) hR hNP hn (show f < 2 ^ 31 by omega) g1 g3 g4 g5 g6 g8 g9 g10
    rw [hk, if_pos rfl, k1, ebnd, ifz, c_evidence hR hNP hn h4 (by omega) g1 g3 g4 g6 g8 g9, ebnd, k3, ebnd] at hc
    rw [hk, if_pos rfl, k2, ebnd, ifz, k4, ebnd] at hm
    rw [show (sI M 0 0).2.1 9 = M.2.1 9 from rfl] at hm
    cases h6 : apb (M.2.1 9) (f % 40) Ap T e with
    | false =>
      rw [h6] at hc hm
      exact LK.b4 (b := true) hc hm
    | true =>
      rw [h6] at hc hm
      exact LK.b4 (b := true) hc hm
end FACE2
