/-! the other methods that change -/
section CHG2
variable {P NP D D2 K T LC CC FC E Bs F Pt Ap n : Nat} {c x inp ou ru no rd M : OS} {pa : PS} {so : Option OS} {sv : Value} {p3 : Nat → Int64} {m : Nat → Int32}
theorem RR.upd0 {c' : OS} {m' : Nat → Int32} {D' LC' CC' FC' : Nat} (h : RR P NP D T LC CC FC c m) (h0 : R0 P NP D' 20 T LC' CC' FC' c' m') (e6 : c'.1 6 = c.1 6) (e7 : c'.1 7 = c.1 7) (e2 : m' 2 = m 2) (e3 : m' 3 = m 3) (hF : FC' = FC) : RR P NP D' T LC' CC' FC' c' m' := by
  obtain ⟨h1, h2, h3, h4⟩ := h
  refine ⟨h0, ⟨by rw [e6, e2]; exact h2.1, by rw [e7, e3]; exact h2.2⟩, ?_, by rw [hF]; exact h4⟩
  obtain ⟨B, b1, b2⟩ := h3
  exact ⟨B, b1, by rw [e3]; exact b2⟩
theorem lk_withdraw (h : RXx P NP E Bs F Pt Ap T LC CC FC D x inp ou ru no rd pa M so) (hn : 13000 < n) (v : Int32) : LKc D x inp ou ru rd M so (f_L_withdraw n sv x no pa 1 p3 v) (f_X9_withdraw n M v) := by
  have hRR := h.2.2.1
  have hR := hRR.1
  have h60 := hR.C60
  unfold f_L_withdraw f_X8_withdraw f_X9_withdraw
  rw [c_needClaim hR.claims, ebnd, m_isClaim hR.mclaims h60, ebnd, m_is, ebnd2, ifz]
  cases hv : vb v CC with
  | false => exact LKc_no (p3 := p3) (k := 1) h (Nat.le_refl D) rfl (by decide) rfl (EqM.told M 1) rfl
  | true =>
    obtain ⟨q, hq, rfl⟩ := vb_ok (by omega) hv
    rw [if_pos rfl, if_pos rfl, if_pos rfl, c_waits hR hq, ebnd, m_doesWait (by omega), ebnd, m_may, ebnd2, ifz, ifz, show (sI M 0 (bI (!true))).2.1 9 = M.2.1 9 from rfl]
    cases hwt : wt (M.2.1 9) q with
    | false => exact LKc_no (p3 := p3) (k := 2) h (Nat.le_refl D) rfl (by decide) rfl ((EqM.told M 0).tr (EqM.told _ 2)) rfl
    | true =>
      obtain ⟨y, y1, y2⟩ := m_starts (n := n) (M := sI (sI M 0 (bI (!true))) 0 (if true = true then 0 else 2)) (by omega)
      have hR3 := hR.refuse hq hwt 3 (Or.inr rfl)
      rw [if_neg (show ¬ (3 : Int32) = 2 from by decide)] at hR3
      have hRR3 : RR P NP D T LC CC FC (sA no 13 (upd (no.2.1 13) (7 * q + 3) 3)) ((sA (sA (sI (sI M 0 (bI (!true))) 0 (if true = true then 0 else 2)) 11 y) 9 (upd (M.2.1 9) (602 + 7 * q + 3) 3)).2.1 9) := by
        rw [sA_get]
        exact hRR.upd0 hR3 rfl rfl (upd_n (by omega)) (upd_n (by omega)) rfl
      obtain ⟨pa', M4, d1, d2, d3, d4⟩ := h.done (n := n) ((EqM.told M _).tr (EqM.told _ _)) y2 (Fr.row _ _) hRR3 (Nat.le_refl D) hn (M.2.1 9 (602 + 7 * q + 4))
      have i3 : (602 : Int32) + (7 : Int32) * nI q + (3 : Int32) = nI (602 + 7 * q + 3) := ix2 602 7 q 3
      have e4 : no.2.1 13 (7 * q + 4) = M.2.1 9 (602 + 7 * q + 4) := hR.1.2.2.2.2.2.1 q hq 4 (by omega)
      rw [if_pos rfl, if_pos rfl, d1, ebnd, sC3 (by omega), ebnd, eLet, gC4 (by omega), sA_get, upd_n (show 7 * q + 4 ≠ 7 * q + 3 by omega), ebnd, ebnd4, if_pos rfl, ho0, y1, ebnd, i3, wz (by omega), mC4 (by omega), ebnd, sA_get, upd_n (show 602 + 7 * q + 4 ≠ 602 + 7 * q + 3 by omega), show (sA (sI (sI M 0 (bI (!true))) 0 (if true = true then 0 else 2)) 11 y).2.1 9 = M.2.1 9 from rfl, d2, ebnd2, e4]
      exact LKc_ok (p3 := p3) rfl rfl d3 (d4.trans rfl)
theorem lk_giveBack (h : RXx P NP E Bs F Pt Ap T LC CC FC D x inp ou ru no rd pa M so) (hn : 13000 < n) (v w : Int32) : LKc D x inp ou ru rd M so (f_L_giveBack n sv x no pa 1 p3 v w) (f_X9_giveBack n M v w) := by
  have hU := h.1
  have hRR := h.2.2.1
  have hR := hRR.1
  have h80 := hR.L80
  have h64 := hR.P64
  unfold f_L_giveBack f_X8_giveBack f_X9_giveBack
  rw [c_needLoan hR.loans, ebnd, m_isLoan hR.mloans h80, ebnd, m_is, ebnd2, ifz]
  cases hv : vb v LC with
  | false => exact LKc_no (p3 := p3) (k := 1) h (Nat.le_refl D) rfl (by decide) rfl (EqM.told M 1) rfl
  | true =>
    obtain ⟨l, hl, rfl⟩ := vb_ok (by omega) hv
    obtain ⟨q0, q1, _⟩ := hR.1.2.2.2.2.1 l hl
    have hple := pc_le (M.2.1 9) P (nI l)
    rw [if_pos rfl, if_pos rfl, if_pos rfl, gL1 (by omega), ebnd, q1, nd1, m_pagesOf (M := sI M 0 (bI (!true))) hU.2.1.1 h64 (by omega), ebnd, show (sI M 0 (bI (!true))).2.1 9 = M.2.1 9 from rfl, in_1, ebnd, m_may, ebnd2, ifz]
    cases hw : v1 w (pc (M.2.1 9) P (nI l)) with
    | false => exact LKc_no (p3 := p3) (k := 2) h (Nat.le_refl D) rfl (by decide) rfl ((EqM.told M 0).tr (EqM.told _ 2)) rfl
    | true =>
      obtain ⟨g, hg, hg2, rfl⟩ := v1_ok (by omega) hw
      obtain ⟨y, y1, y2⟩ := m_starts (n := n) (M := sI (sI M 0 (bI (!true))) 0 (if true = true then 0 else 2)) (by omega)
      have hUy : Ru P NP E Bs F Pt Ap ru (sA (sI (sI M 0 (bI (!true))) 0 (if true = true then 0 else 2)) 11 y) := hU.fr fun j h1 _ => by rw [sA_1, sI_o (by omega), sI_o (by omega)]
      have k2 : f_X9_frees n (sA (sI (sI M 0 (bI (!true))) 0 (if true = true then 0 else 2)) 11 y) (nI l) (nI g) = some (sA (sA (sI (sI M 0 (bI (!true))) 0 (if true = true then 0 else 2)) 11 y) 9 (relM (M.2.1 9) P l g)) := m_frees hUy.2.1.1 h64 (by omega) (by omega)
      have hRR3 : RR P NP D T LC CC FC (relC no l g) ((sA (sA (sI (sI M 0 (bI (!true))) 0 (if true = true then 0 else 2)) 11 y) 9 (relM (M.2.1 9) P l g)).2.1 9) := by
        rw [sA_get]
        exact RR.release hRR hl hg2
      obtain ⟨_, q1', _⟩ := hRR3.1.1.2.2.2.2.1 l hl
      rw [sA_get] at q1'
      obtain ⟨pa', M4, d1, d2, d3, d4⟩ := h.done (n := n) ((EqM.told M _).tr (EqM.told _ _)) y2 (Fr.row _ _) hRR3 (Nat.le_refl D) hn (nI (pc (relM (M.2.1 9) P l g) P (nI l)))
      have k3 : f_X9_pagesOf n (sA (sA (sI (sI M 0 (bI (!true))) 0 (if true = true then 0 else 2)) 11 y) 9 (relM (M.2.1 9) P l g)) (nI l) = some (nI (pc (relM (M.2.1 9) P l g) P (nI l))) := by
        rw [m_pagesOf (n := n) (P := P) (M := sA (sA (sI (sI M 0 (bI (!true))) 0 (if true = true then 0 else 2)) 11 y) 9 (relM (M.2.1 9) P l g)) hUy.2.1.1 h64 (by omega), sA_get]
      rw [if_pos rfl, if_pos rfl, d1, ebnd, c_release (by omega) (by omega) (by omega), ebnd, gL1 (by omega), ebnd, q1', ebnd4, if_pos rfl, ho0, y1, ebnd, k2, ebnd, k3, ebnd, d2, ebnd2]
      exact LKc_ok (p3 := p3) rfl rfl d3 (d4.trans rfl)
theorem lk_stall (h : RXx P NP E Bs F Pt Ap T LC CC FC D x inp ou ru no rd pa M so) (hn : 13000 < n) (v w : Int32) : LKc D x inp ou ru rd M so (f_L_stall n sv x ru no pa 1 p3 v w) (f_X9_stall n M v w) := by
  have hU := h.1
  have hRR := h.2.2.1
  have hR := hRR.1
  have hNP : NP ≤ 8 := hU.2.2.2.2.1
  unfold f_L_stall f_X8_stall f_X9_stall
  rw [c_needProcess hU, ebnd, m_isProcess hU, ebnd, m_is, ebnd2, ifz, show (99 : Int32) = nI 99 from rfl, nd3e w 99 (by decide), show (99 : Int64) = (nI 99).toInt64 from by decide, in_to w 99 (by decide), ebnd, m_may, ebnd2, ifz]
  cases hv : vb v NP with
  | false => exact LKc_no (p3 := p3) (k := 1) h (Nat.le_refl D) rfl (by decide) rfl (EqM.told M 1) rfl
  | true =>
    obtain ⟨p, hp, rfl⟩ := vb_ok (by omega) hv
    rw [if_pos rfl, if_pos rfl, if_pos rfl]
    cases hw : vb w (99 + 1) with
    | false => exact LKc_no (p3 := p3) (k := 2) h (Nat.le_refl D) rfl (by decide) rfl ((EqM.told M 0).tr (EqM.told _ 2)) rfl
    | true =>
      obtain ⟨u1, u2, u3, u4, u5⟩ := hR.1.2.2.2.1 p (by omega)
      obtain ⟨y, y1, y2⟩ := m_starts (n := n) (M := sI (sI M 0 (bI (!true))) 0 (if true = true then 0 else 2)) (by omega)
      have hRR3 : RR P NP D T LC CC FC (sA no 11 (upd (no.2.1 11) (5 * p + 2) w)) ((sA (sA (sI (sI M 0 (bI (!true))) 0 (if true = true then 0 else 2)) 11 y) 9 (upd (M.2.1 9) (10 + 6 * p + 2) w)).2.1 9) := by
        rw [sA_get]
        exact hRR.upd0 (hR.setP (by omega) (jc := 2) (jm := 2) (by omega) w (fun z => absurd z (by omega))) rfl rfl (upd_n (by omega)) (upd_n (by omega)) rfl
      obtain ⟨pa', M4, d1, d2, d3, d4⟩ := h.done (n := n) ((EqM.told M _).tr (EqM.told _ _)) y2 (Fr.row _ _) hRR3 (Nat.le_refl D) hn (M.2.1 9 (10 + 6 * p + 2))
      rw [if_pos rfl, if_pos rfl, d1, ebnd, gP2 (by omega), ebnd, sP2 (by omega), ebnd, eLet, ebnd4, if_pos rfl, ho0, y1, ebnd, mP2 (by omega), ebnd, mS2 (by omega), ebnd, show (sA (sI (sI M 0 (bI (!true))) 0 (if true = true then 0 else 2)) 11 y).2.1 9 = M.2.1 9 from rfl, d2, ebnd2, u3]
      exact LKc_ok (p3 := p3) rfl rfl d3 (d4.trans rfl)
/-! renewing -/
def oth (m : Nat → Int32) (v : Int32) (q : Nat) : Bool := wt m q && !(decide (m (602 + 7 * q) = v))
theorem stp_oth (m : Nat → Int32) (v : Int32) (CC : Nat) : stp m v 0 CC + fb_ct (oth m v) CC = stc m 0 CC := by
  unfold stp stc
  rw [← fb_ct_or fun k _ h => by
    have h1 := (Bool.and_eq_true_iff.mp h.1).2
    have h2 := (Bool.and_eq_true_iff.mp h.2).2
    rw [h1] at h2
    exact absurd h2 (by decide)]
  refine fb_ct_cong fun k _ => ?_
  unfold oth wt
  cases decide (m (602 + 7 * k + 3) = 0) <;> cases decide (m (602 + 7 * k) = v) <;> rfl
theorem m_others (hR : R0 P NP D K T LC CC FC c (M.2.1 9)) (hn : 100 < n) (v : Int32) : f_X9_doOthersWait n M v = some (bI (!(decide (stp (M.2.1 9) v 0 CC = stc (M.2.1 9) 0 CC)))) := by
  have h60 := hR.C60
  have hso := stp_oth (M.2.1 9) v CC
  have hh := loop_inv (l := fun N (s : Unit) i => l_X9_doOthersWait_2 n M v N i) (fun i _ => ∀ q, q < i → oth (M.2.1 9) v q = false) (Q := fun r => r = bI (!(decide (stp (M.2.1 9) v 0 CC = stc (M.2.1 9) 0 CC)))) (K := CC) (fun N s hs => ?_) (fun N s i hi hs => ?_) 0 n () (by omega) (by omega) (fun q hq => absurd hq (by omega))
  · obtain ⟨r, h1, h2⟩ := hh
    rw [← h2]
    exact h1
  · refine ⟨0, ?_, ?_⟩
    · show s_X9_doOthersWait_2 n M v _ (nI CC) = _
      unfold s_X9_doOthersWait_2
      rw [gz7, hR.mclaims, if_pos (Int32.le_refl _)]
    · have := fb_ct_zero.mpr hs
      rw [decide_eq_true (show stp (M.2.1 9) v 0 CC = stc (M.2.1 9) 0 CC by omega)]
      rfl
  · have step : s_X9_doOthersWait_2 n M v (l_X9_doOthersWait_2 n M v N) (nI i) = if oth (M.2.1 9) v i then some 1 else l_X9_doOthersWait_2 n M v N (nI (i + 1)) := by
      unfold s_X9_doOthersWait_2 oth
      rw [gz7, hR.mclaims, if_neg (nI_ge hi (by omega)), m_doesWait (by omega), ebnd, ifz]
      cases wt (M.2.1 9) i with
      | false => rw [if_neg (show ¬ (false = true) from by decide), eLet, nI_1]; rfl
      | true =>
        rw [if_pos rfl, mC0 (by omega), ebnd]
        by_cases e : M.2.1 9 (602 + 7 * i) = v
        · rw [if_pos e, eLet, nI_1, decide_eq_true e]
          rfl
        · rw [if_neg e, decide_eq_false e]
          rfl
    cases ho : oth (M.2.1 9) v i with
    | false =>
      rw [ho] at step
      refine Or.inl ⟨(), fun q hq => ?_, step⟩
      by_cases e : q = i
      · rw [e]
        exact ho
      · exact hs q (by omega)
    | true =>
      rw [ho] at step
      refine Or.inr ⟨1, step, ?_⟩
      have : 0 < fb_ct (oth (M.2.1 9) v) CC := fb_ct_pos.mpr ⟨i, hi, ho⟩
      rw [decide_eq_false (show ¬ stp (M.2.1 9) v 0 CC = stc (M.2.1 9) 0 CC by omega)]
      rfl
/-- a loan that may be renewed -/
def rnb (m : Nat → Int32) (P CC p l : Nat) : Bool := decide (0 < pc m P (nI l)) && (!(bk m P l) && (decide (m (10 + 6 * p) = 0) && decide (stp m (nI p) 0 CC = stc m 0 CC)))
theorem c_renewable (hR : R0 P NP D K T LC CC FC no (M.2.1 9)) (hn : 100 < n) {l p : Nat} (hl : l < LC) (hp : p < 8) (hpo : M.2.1 9 (58 + 6 * l) = nI p) : f_X2_isRenewable n no (nI l) = some (bI (rnb (M.2.1 9) P CC p l)) := by
  have h80 := hR.L80
  have h60 := hR.C60
  have h64 := hR.P64
  obtain ⟨q0, _⟩ := hR.1.2.2.2.2.1 l hl
  obtain ⟨u1, _⟩ := hR.1.2.2.2.1 p hp
  have l1 : stp (M.2.1 9) (nI p) 0 CC ≤ CC := fb_ct_le _ _
  have l2 : stc (M.2.1 9) 0 CC ≤ CC := fb_ct_le _ _
  unfold f_X2_isRenewable rnb
  rw [gL0 (by omega), ebnd, q0, hpo, c_isOpen hR h64 hl, ebnd, ifz]
  cases decide (0 < pc (M.2.1 9) P (nI l)) with
  | false => rfl
  | true =>
    rw [if_pos rfl, c_isBroken hR h64 hl, ebnd, ifz]
    cases bk (M.2.1 9) P l with
    | true => rfl
    | false =>
      rw [if_neg (show ¬ (false = true) from by decide), gP0 hp, ebnd, u1]
      by_cases e : M.2.1 9 (10 + 6 * p) = 0
      · rw [if_pos e, decide_eq_true e, c_claimsThat hR hn, ebnd, c_claimsThat hR hn, ebnd, clm_one hp, clm_all]
        by_cases e2 : stp (M.2.1 9) (nI p) 0 CC = stc (M.2.1 9) 0 CC
        · rw [if_pos (by rw [e2]), decide_eq_true e2]
          rfl
        · rw [if_neg (fun z => e2 (nI_inj (by omega) (by omega) z)), decide_eq_false e2]
          rfl
      · rw [if_neg e, decide_eq_false e]
        rfl
theorem m_canRenew (hR : R0 P NP D K T LC CC FC c (M.2.1 9)) (hP : M.1 1 = nI P) (hn : 100 < n) {l p : Nat} (hl : l < LC) (hp : p < 8) (hpo : M.2.1 9 (58 + 6 * l) = nI p) : f_X9_canRenew n M (nI l) = some (bI (rnb (M.2.1 9) P CC p l)) := by
  have h80 := hR.L80
  have h64 := hR.P64
  have hle := pc_le (M.2.1 9) P (nI l)
  unfold f_X9_canRenew rnb
  rw [mL0 (by omega), ebnd, hpo, m_pagesOf hP h64 hn, ebnd]
  by_cases e0 : 0 < pc (M.2.1 9) P (nI l)
  · rw [if_neg (nI_nle e0 (by omega)), decide_eq_true e0, m_isBroken hP h64 hn (by omega), ebnd, ifz]
    cases bk (M.2.1 9) P l with
    | true => rfl
    | false =>
      rw [if_neg (show ¬ (false = true) from by decide), mP0 hp, ebnd]
      by_cases e : M.2.1 9 (10 + 6 * p) = 0
      · rw [if_pos e, decide_eq_true e, m_others hR hn, ebnd, ifz]
        cases decide (stp (M.2.1 9) (nI p) 0 CC = stc (M.2.1 9) 0 CC) <;> rfl
      · rw [if_neg e, decide_eq_false e]
        rfl
  · rw [if_pos (nI_zle (by omega)), decide_eq_false e0]
    rfl
theorem lk_renew (h : RXx P NP E Bs F Pt Ap T LC CC FC D x inp ou ru no rd pa M so) (hn : 13000 < n) (hD2 : D ≤ 100000) (v w : Int32) : LKc (D + 99) x inp ou ru rd M so (f_L_renew n sv x no pa 1 p3 v w) (f_X9_renew n M v w) := by
  have hU := h.1
  have hRR := h.2.2.1
  have hR := hRR.1
  have h80 := hR.L80
  have hNP : NP ≤ 8 := hU.2.2.2.2.1
  unfold f_L_renew f_X8_renew f_X9_renew
  rw [c_needLoan hR.loans, ebnd, m_isLoan hR.mloans h80, ebnd, m_is, ebnd2, ifz, show (99 : Int32) = nI 99 from rfl, nd1, show (99 : Int64) = (nI 99).toInt64 from by decide, in_1, ebnd, m_may, ebnd2, ifz]
  cases hv : vb v LC with
  | false => exact LKc_no (p3 := p3) (k := 1) h (Nat.le_add_right D 99) rfl (by decide) rfl (EqM.told M 1) rfl
  | true =>
    obtain ⟨l, hl, rfl⟩ := vb_ok (by omega) hv
    rw [if_pos rfl, if_pos rfl, if_pos rfl]
    cases hw : v1 w 99 with
    | false => exact LKc_no (p3 := p3) (k := 2) h (Nat.le_add_right D 99) rfl (by decide) rfl ((EqM.told M 0).tr (EqM.told _ 2)) rfl
    | true =>
      obtain ⟨t, ht, ht2, rfl⟩ := v1_ok (by decide) hw
      obtain ⟨⟨p, hp, hpo⟩, ⟨d, hd, hdo⟩⟩ := hR.2.2.2.2.2.1 l hl
      obtain ⟨_, _, q3, _⟩ := hR.1.2.2.2.2.1 l hl
      rw [if_pos rfl, if_pos rfl, c_renewable hR (by omega) hl (by omega) hpo, ebnd, m_canRenew (M := sI (sI M 0 (bI (!true))) 0 (if true = true then 0 else 2)) hR hU.2.1.1 (by omega) hl (show p < 8 by omega) hpo, ebnd, m_may, ebnd2, ifz, ifz, show (sI (sI M 0 (bI (!true))) 0 (if true = true then 0 else 2)).2.1 9 = M.2.1 9 from rfl]
      cases hb : rnb (M.2.1 9) P CC p l with
      | false => exact LKc_no (p3 := p3) (k := 3) h (Nat.le_add_right D 99) rfl (by decide) rfl (((EqM.told M 0).tr (EqM.told _ _)).tr (EqM.told _ 3)) rfl
      | true =>
        obtain ⟨y, y1, y2⟩ := m_starts (n := n) (M := sI (sI (sI M 0 (bI (!true))) 0 (if true = true then 0 else 2)) 0 (if true = true then 0 else 3)) (by omega)
        have hRR3 : RR P NP (D + 99) T LC CC FC (sA no 12 (upd (no.2.1 12) (8 * l + 2) (nI (d + t)))) ((sA (sA (sI (sI (sI M 0 (bI (!true))) 0 (if true = true then 0 else 2)) 0 (if true = true then 0 else 3)) 11 y) 9 (upd (M.2.1 9) (58 + 6 * l + 1) (nI (d + t)))).2.1 9) := by
          rw [sA_get]
          exact hRR.upd0 ((hR.mono (Nat.le_add_right D 99)).renew hl (by omega)) rfl rfl (upd_n (by omega)) (upd_n (by omega)) rfl
        obtain ⟨pa', M4, d1, d2, d3, d4⟩ := h.done (n := n) (((EqM.told M _).tr (EqM.told _ _)).tr (EqM.told _ _)) y2 (Fr.row _ _) hRR3 (Nat.le_add_right D 99) hn (nI (d + t))
        have i1 : (58 : Int32) + (6 : Int32) * nI l + (1 : Int32) = nI (58 + 6 * l + 1) := ix2 58 6 l 1
        rw [if_pos rfl, if_pos rfl, d1, ebnd, aL2 (by omega), ebnd, eLet, q3, hdo, nI_add, gL2 (by omega), ebnd, sA_get, upd_s, ebnd4, if_pos rfl, ho0, y1, ebnd, eLet, i1, rz (by omega), show (sA (sI (sI (sI M 0 (bI (!true))) 0 (if true = true then 0 else 2)) 0 (if true = true then 0 else 3)) 11 y).2.1 9 = M.2.1 9 from rfl, hdo, nI_add, wz (by omega), rz (by omega), sA_get, upd_s, d2, ebnd2]
        exact LKc_ok (p3 := p3) rfl rfl d3 (d4.trans rfl)
end CHG2
