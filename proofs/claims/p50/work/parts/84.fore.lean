/-! the forecasts: what they tell is what comes -/
section P51_c_untilNo
variable {P NP D K T LC CC FC E Bs F Pt Ap n : Nat} {c no fo ru M x : OS} {sv : Value} {p3 : Nat → Int64}
theorem c_untilNo (hn : 2500 < n) (hD : 2100 ≤ D) (hD2 : D ≤ 100000) {q w a : Nat} (hTa : T + a ≤ 2000) (hq : q < CC) : ∀ (d i N : Nat) (c M : OS) (LC FC : Nat), Ru P NP E Bs F Pt Ap ru M → RR P NP D (T + i) LC CC FC c (M.2.1 9) → i + d = a → wt (M.2.1 9) q = false → M.2.1 9 (602 + 7 * q + 3) ≠ nI w → d < N → ∃ c', l_X8_ticksUntil_44 n sv x ru no (nI q) (nI w) (nI a) N c (nI (i + 1)) = some (c', -1)
  | 0, i, N, c, M, LC, FC, hU, hRR, hi, hwt, hne, hN => by
    obtain ⟨N', rfl⟩ : ∃ N', N = N' + 1 := ⟨N - 1, by omega⟩
    refine ⟨c, ?_⟩
    show s_X8_ticksUntil_44 n sv x ru no (nI q) (nI w) (nI a) _ c (nI (i + 1)) = _
    unfold s_X8_ticksUntil_44
    rw [if_pos (nI_lt (by omega) (by omega))]
  | d + 1, i, N, c, M, LC, FC, hU, hRR, hi, hwt, hne, hN => by
    obtain ⟨N', rfl⟩ : ∃ N', N = N' + 1 := ⟨N - 1, by omega⟩
    obtain ⟨c2, M2, met, d1, d2, LC2, FC2, e1, e2, e3, e4, e5, _⟩ := tick (n := n) hRR hU (by omega) hD hD2 (by omega)
    have hst := e5 q hq hwt
    have hg : f_X6_get n (7 : Int32) 420 (c2.2.1 13) (nI q) (3 : Int32) = some (M2.2.1 9 (602 + 7 * q + 3)) := c_claimV (j := 3) e1.1 hq (by decide)
    obtain ⟨c', h'⟩ := c_untilNo hn hD hD2 hTa hq d (i + 1) N' c2 M2 LC2 FC2 (hU.Fr e3) (by rw [← Nat.add_assoc]; exact e1) (by omega) (by unfold wt at hwt ⊢; rw [hst]; exact hwt) (by rw [hst]; exact hne) (by omega)
    refine ⟨c', ?_⟩
    show s_X8_ticksUntil_44 n sv x ru no (nI q) (nI w) (nI a) _ c (nI (i + 1)) = _
    unfold s_X8_ticksUntil_44
    rw [if_neg (nI_nlt (by omega) (by omega)), d1, ebnd2, hg, ebnd, hst, if_neg hne, eLet, nI_1]
    exact h'
end P51_c_untilNo
section FORE9
variable {P NP D T LC CC FC E Bs F Pt Ap n : Nat} {no fo ru M x : OS} {sv : Value} {pa : PS}
theorem mT_add (M : OS) (i : Nat) : ∀ d, mT n (i + d) M = bnd (mT n i M) (fun M1 => mT n d M1)
  | 0 => by
    show mT n i M = _
    cases mT n i M <;> rfl
  | d + 1 => by
    show bnd (mT n (i + d) M) (fun M1 => f_X9_ticks n M1) = _
    rw [mT_add M i d]
    cases mT n i M <;> rfl
theorem upd_self {m : Nat → Int32} {j : Nat} {v : Int32} (h : m j = v) : upd m j v = m := funext fun i => by
  by_cases e : i = j
  · rw [e, upd_s, h]
  · rw [upd_n e]
/-- a forecast on a copy of the court comes to the row of the court itself -/
theorem pass_ok (hU : Ru P NP E Bs F Pt Ap ru M) {c : OS} (h : RR P NP 2100 T LC CC FC c (M.2.1 9)) (hn : 2500 < n) {t : Nat} (hT : T + t ≤ 2000) {M' : OS} (hM : mT n t M = some M') {c' : OS} {LC' FC' : Nat} (h' : RR P NP 2100 (T + t) LC' CC FC' c' (M'.2.1 9)) {no : OS} (hno : no.1 0 = nI T) : ∃ y, (∀ sv x, f_X8_pass n sv x ru no c (nI t) = some (y, nI (stc (M'.2.1 9) 1 CC - stc (M.2.1 9) 1 CC))) ∧ RR P NP 2100 (T + t) LC' CC FC' y (M'.2.1 9) := by
  have hall := fun i hi => ticks (n := n) hU (by omega) (Nat.le_refl 2100) (by omega) h i (show T + i ≤ 2000 from hi)
  obtain ⟨c2, M2, s, h1, h2, LC2, FC2, z1, z2, z3, z4, z5, z6, z7⟩ := hall t hT
  have e2 : M2 = M' := Option.some.inj (h2.symm.trans hM)
  subst e2
  obtain ⟨y1, y2⟩ := met_sum h z1 z4 z5
  subst y2
  have eL : LC2 = LC' := nI_inj (by have := z1.1.L80; omega) (by have := h'.1.L80; omega) (z1.1.mloans.symm.trans h'.1.mloans)
  have eF : FC2 = FC' := nI_inj (by have := z1.1.mfines.2.2; omega) (by have := h'.1.mfines.2.2; omega) (z1.1.mfines.1.symm.trans h'.1.mfines.1)
  subst eL
  subst eF
  refine ⟨c2, fun sv x => ?_, z1⟩
  obtain ⟨r, r1, r2⟩ := c_pass (n := n) (ru := ru) (sv := sv) (th := x) (no := no) (fo := c) (a := t) (many := t) (by omega) (by omega) (by omega) hn hno (fun i hi => by
    obtain ⟨c1, M1, s1, k1, _⟩ := hall i (by omega)
    exact ⟨(c1, s1), k1⟩)
  have e1 : r = (c2, nI (stc (M2.2.1 9) 1 CC - stc (M.2.1 9) 1 CC)) := Option.some.inj (r1.symm.trans h1)
  rw [r2, e1]
theorem tk_ok {t : Nat} (h1 : 1 ≤ t) (h2 : t ≤ 500) : tkb (nI t) = true := by
  unfold tkb
  rw [decide_eq_true (show (1 : Int32) ≤ nI t from nI_le (a := 1) (b := t) h1 (by omega)), decide_eq_true (show nI t ≤ (500 : Int32) from nI_le (a := t) (b := 500) h2 (by decide))]
  rfl
/-- what a process will have: told beforehand -/
theorem processIn_ok (hU : Ru P NP E Bs F Pt Ap ru M) (h : RR P NP 2100 T LC CC FC no (M.2.1 9)) (hn : 2500 < n) {t : Nat} (ht1 : 1 ≤ t) (ht2 : t ≤ 500) (hT : T + t ≤ 2000) {M' : OS} (hM : mT n t M = some M') {c' : OS} {LC' FC' : Nat} (h' : RR P NP 2100 (T + t) LC' CC FC' c' (M'.2.1 9)) {p : Nat} (hp : p < NP) : (∃ y, f_X8_processIn n sv x ru no fo (nI p) (nI t) (0 : Int32) = some (y, prv (M'.2.1 9) P LC' CC p 0, 0)) ∧ (∃ y, f_X8_processIn n sv x ru no fo (nI p) (nI t) (1 : Int32) = some (y, prv (M'.2.1 9) P LC' CC p 1, 0)) ∧ (∃ y, f_X8_processIn n sv x ru no fo (nI p) (nI t) (2 : Int32) = some (y, prv (M'.2.1 9) P LC' CC p 3, 0)) := by
  have hNP : NP ≤ 8 := hU.2.2.2.2.1
  obtain ⟨y, y1, y2⟩ := c_copy (n := n) fo no
  obtain ⟨z, z1, z2⟩ := pass_ok hU (h.cpy y2 fun _ _ => rfl) hn hT hM h' h.1.time.2.1
  obtain ⟨q0, q1, q2, q3, q4⟩ := z2.1.1.2.2.2.1 p (by omega)
  have beg : ∀ j : Int32, ¬ j < 0 → j ≤ 2 → f_X8_processIn n sv x ru no fo (nI p) (nI t) j = if j = (2 : Int32) then (bnd (f_X2_heldPages n z (nI p)) (fun (r_8 : Int32) => some (z, r_8, 0))) else (if j = 0 then (bnd (f_X6_get n (5 : Int32) 40 (z.2.1 11) (nI p) (0 : Int32)) (fun (r_7 : Int32) => some (z, r_7, 0))) else (bnd (f_X6_get n (5 : Int32) 40 (z.2.1 11) (nI p) (1 : Int32)) (fun (r_6 : Int32) => some (z, r_6, 0)))) := fun j j0 j2 => by
    unfold f_X8_processIn
    rw [c_needProcess hU, ebnd, vb_in hp (by omega), if_pos rfl, if_pos rfl, c_needTicks, ebnd, tk_ok ht1 ht2, if_pos rfl, if_pos rfl, if_neg j0, if_pos j2, y1, ebnd, z1, ebnd2]
  refine ⟨⟨z, ?_⟩, ⟨z, ?_⟩, ⟨z, ?_⟩⟩
  · rw [beg 0 (by decide) (by decide), if_neg (by decide), if_pos rfl, gP0 (by omega), ebnd, q0]
    rfl
  · rw [beg 1 (by decide) (by decide), if_neg (by decide), if_neg (by decide), gP1 (by omega), ebnd, q1]
    rfl
  · rw [beg 2 (by decide) (by decide), if_pos rfl, c_heldPages z2.1 (by omega), ebnd]
    show some (z, _, 0) = some (z, nI (fb_sm (fun l => if decide (M'.2.1 9 (58 + 6 * l) = nI p) then pc (M'.2.1 9) P (nI l) else 0) LC'), 0)
    rw [fb_sm_cong fun l _ => by rw [ofp_one (show p < 8 by omega)]]
/-- when a claim will be met: told beforehand -/
def Unt (q T a : Nat) (m : Nat → Int32) (r : Int32) : Prop := (r = -1 ∧ m (602 + 7 * q + 3) ≠ 1) ∨ ∃ i, 1 ≤ i ∧ i ≤ a ∧ r = nI i ∧ ∃ LC', MtA q (T + i) LC' m
theorem until9 (hn : 2500 < n) {q a : Nat} (hTa : T + a ≤ 2000) (hq : q < CC) {M0 M' : OS} (hM : mT n a M0 = some M') : ∀ (d i N : Nat) (c M : OS) (LC FC : Nat), Ru P NP E Bs F Pt Ap ru M → RR P NP 2100 (T + i) LC CC FC c (M.2.1 9) → mT n i M0 = some M → i + d = a → wt (M.2.1 9) q = true → d < N → ∃ c' r, l_X8_ticksUntil_44 n sv x ru no (nI q) (1 : Int32) (nI a) N c (nI (i + 1)) = some (c', r) ∧ Unt q T a (M'.2.1 9) r
  | 0, i, N, c, M, LC, FC, hU, hRR, hi, hd, hwt, hN => by
    obtain ⟨N', rfl⟩ : ∃ N', N = N' + 1 := ⟨N - 1, by omega⟩
    obtain rfl : i = a := by omega
    have e : M = M' := Option.some.inj (hi.symm.trans hM)
    subst e
    refine ⟨c, -1, ?_, Or.inl ⟨rfl, by rw [wt_iff.mp hwt]; decide⟩⟩
    show s_X8_ticksUntil_44 n sv x ru no (nI q) (1 : Int32) (nI i) _ c (nI (i + 1)) = _
    unfold s_X8_ticksUntil_44
    rw [if_pos (nI_lt (by omega) (by omega))]
  | d + 1, i, N, c, M, LC, FC, hU, hRR, hi, hd, hwt, hN => by
    obtain ⟨N', rfl⟩ : ∃ N', N = N' + 1 := ⟨N - 1, by omega⟩
    have h60 := hRR.1.C60
    obtain ⟨c2, M2, met, d1, d2, LC2, FC2, e1, e2, e3, e4, e5, e6, e7, e8⟩ := tick (n := n) hRR hU (by omega) (Nat.le_refl 2100) (by omega) (by omega)
    have hU2 := hU.Fr e3
    have e1' : RR P NP 2100 (T + (i + 1)) LC2 CC FC2 c2 (M2.2.1 9) := by
      rw [← Nat.add_assoc]
      exact e1
    have hi2 : mT n (i + 1) M0 = some M2 := by
      show bnd (mT n i M0) (fun M1 => f_X9_ticks n M1) = _
      rw [hi, ebnd, d2]
    obtain ⟨c3, M3, s3, k1, k2, LC3, FC3, z1, z2, z3, z4, z5, z6, z7⟩ := ticks (n := n) hU2 (by omega) (Nat.le_refl 2100) (by omega) e1' d (by omega)
    have e3' : M3 = M' := by
      have h9 := mT_add (n := n) M0 (i + 1) d
      rw [hi2, ebnd, k2, show i + 1 + d = a by omega, hM] at h9
      exact (Option.some.inj h9).symm
    subst e3'
    have hg : f_X6_get n (7 : Int32) 420 (c2.2.1 13) (nI q) (3 : Int32) = some (M2.2.1 9 (602 + 7 * q + 3)) := c_claimV (j := 3) e1.1 hq (by decide)
    have hc : l_X8_ticksUntil_44 n sv x ru no (nI q) (1 : Int32) (nI a) (N' + 1) c (nI (i + 1)) = if M2.2.1 9 (602 + 7 * q + 3) = 1 then some (c2, nI (i + 1)) else l_X8_ticksUntil_44 n sv x ru no (nI q) (1 : Int32) (nI a) N' c2 (nI (i + 1 + 1)) := by
      show s_X8_ticksUntil_44 n sv x ru no (nI q) (1 : Int32) (nI a) _ c (nI (i + 1)) = _
      unfold s_X8_ticksUntil_44
      rw [if_neg (nI_nlt (by omega) (by omega)), d1, ebnd2, hg, ebnd, eLet, nI_1]
    rw [hc]
    by_cases hs : M2.2.1 9 (602 + 7 * q + 3) = 1
    · rw [if_pos hs]
      have hB : MtB q (T + (i + 1)) (T + i + 1) LC2 (M2.2.1 9) := e8 _ (mtb_clo hq h60) (Or.inr ⟨by omega, Or.inl (by rw [upd_n (by omega), wt_iff.mp hwt]; decide)⟩)
      have hA : MtA q (T + (i + 1)) LC2 (M2.2.1 9) := by
        rcases hB with b | ⟨_, b | b⟩
        · omega
        · exact absurd hs b
        · exact b
      exact ⟨c2, _, rfl, Or.inr ⟨i + 1, by omega, by omega, rfl, LC3, z7 _ (mta_clo hq h60) hA⟩⟩
    · rw [if_neg hs]
      cases hwt2 : wt (M2.2.1 9) q with
      | true => exact until9 hn hTa hq hM d (i + 1) N' c2 M2 LC2 FC2 hU2 e1' hi2 (by omega) hwt2 (by omega)
      | false =>
        obtain ⟨c4, h4⟩ := c_untilNo (n := n) (sv := sv) (x := x) (no := no) hn (Nat.le_refl 2100) (by omega) (a := a) (w := 1) hTa hq d (i + 1) N' c2 M2 LC2 FC2 hU2 e1' (by omega) hwt2 hs (by omega)
        exact ⟨c4, -1, h4, Or.inl ⟨rfl, by rw [z5 q hq hwt2]; exact hs⟩⟩
theorem metIn_ok (hU : Ru P NP E Bs F Pt Ap ru M) (h : RR P NP 2100 T LC CC FC no (M.2.1 9)) (hn : 2500 < n) {t : Nat} (ht1 : 1 ≤ t) (ht2 : t ≤ 500) (hT : T + t ≤ 2000) {M' : OS} (hM : mT n t M = some M') {q : Nat} (hq : q < CC) : ∃ y r, f_X8_metIn n sv x ru no fo (nI q) (nI t) = some (y, r, 0) ∧ (wt (M.2.1 9) q = true → Unt q T t (M'.2.1 9) r) ∧ (wt (M.2.1 9) q = false → r = -1) := by
  have h60 := h.1.C60
  have hTi := h.1.time
  have beg : f_X8_metIn n sv x ru no fo (nI q) (nI t) = bnd2 (f_X8_ticksUntil n sv x ru no fo (nI q) (1 : Int32) (nI t)) (fun (fo_3 : OS) (r_4 : Int32) => some (fo_3, r_4, 0)) := by
    unfold f_X8_metIn
    rw [c_needClaim h.1.claims, ebnd, vb_in hq (by omega), if_pos rfl, if_pos rfl, c_needTicks, ebnd, tk_ok ht1 ht2, if_pos rfl, if_pos rfl]
  rw [beg]
  unfold f_X8_ticksUntil
  rw [c_waits h.1 hq, ebnd, ifz]
  cases hw : wt (M.2.1 9) q with
  | false => exact ⟨fo, -1, rfl, fun z => absurd z (by decide), fun _ => rfl⟩
  | true =>
    obtain ⟨y, y1, y2⟩ := c_copy (n := n) fo no
    have hmin : (if ((2000 : Int32) - (no.1 0)) < nI t then ((2000 : Int32) - (no.1 0)) else nI t) = nI t := by
      rw [hTi.2.1, show (2000 : Int32) - nI T = nI (2000 - T) from pk_sub (a := 2000) hTi.2.2, minI (by omega) (by omega), Nat.min_eq_right (by omega)]
    obtain ⟨c', r, r1, r2⟩ := until9 (n := n) (sv := sv) (x := x) (no := no) hn hT hq hM t 0 n y M LC FC hU (h.cpy y2 fun _ _ => rfl) rfl (by omega) hw (by omega)
    have r1' : l_X8_ticksUntil_44 n sv x ru no (nI q) (1 : Int32) (nI t) n y (1 : Int32) = some (c', r) := r1
    rw [if_pos rfl, y1, ebnd, hmin, eLet, r1', ebnd2]
    exact ⟨c', r, rfl, fun _ => r2, fun z => absurd z (by decide)⟩
/-- how many claims are met with each order -/
def ordS (n t CC : Nat) (M : OS) (v : Nat) : Nat := match mT n t (sA M 9 (upd (M.2.1 9) 1 (nI v))) with
  | some M' => stc (M'.2.1 9) 1 CC - stc (M.2.1 9) 1 CC
  | none => 0
theorem stc_order {m : Nat → Int32} {v w : Int32} : stc (upd m 1 v) w CC = stc m w CC := fb_ct_cong fun q _ => by
  show decide (upd m 1 v (602 + 7 * q + 3) = w) = decide (m (602 + 7 * q + 3) = w)
  rw [upd_n (by omega)]
theorem best_step (hU : Ru P NP E Bs F Pt Ap ru M) (h : RR P NP 2100 T LC CC FC no (M.2.1 9)) (hn : 2500 < n) {t v : Nat} (hv : v ≤ 2) (hT : T + t ≤ 2000) (fo : OS) (N : Nat) (w2 w3 : Int32) : ∃ y, l_X8_bestOrder_12 n sv x ru no (nI t) (N + 1) fo w2 w3 (nI v) = if nI (ordS n t CC M v) ≤ w3 then l_X8_bestOrder_12 n sv x ru no (nI t) N y w2 w3 (nI (v + 1)) else l_X8_bestOrder_12 n sv x ru no (nI t) N y (nI v) (nI (ordS n t CC M v)) (nI (v + 1)) := by
  obtain ⟨y, y1, y2⟩ := c_copy (n := n) fo no
  have h2 : RR P NP 2100 T LC CC FC (sI y 1 (nI v)) ((sA M 9 (upd (M.2.1 9) 1 (nI v))).2.1 9) := by
    rw [sA_get]
    exact RR.order (h.cpy y2 fun _ _ => rfl) hv
  have hU2 : Ru P NP E Bs F Pt Ap ru (sA M 9 (upd (M.2.1 9) 1 (nI v))) := hU
  obtain ⟨c3, M3, s3, k1, k2, LC3, FC3, z1, _⟩ := ticks (n := n) hU2 (by omega) (Nat.le_refl 2100) (by omega) h2 t (by omega)
  obtain ⟨z, q1, q2⟩ := pass_ok (n := n) hU2 h2 hn hT k2 z1 h.1.time.2.1
  refine ⟨z, ?_⟩
  have es : ordS n t CC M v = stc (M3.2.1 9) 1 CC - stc ((sA M 9 (upd (M.2.1 9) 1 (nI v))).2.1 9) 1 CC := by
    unfold ordS
    rw [k2, sA_get, stc_order]
  show s_X8_bestOrder_12 n sv x ru no (nI t) _ fo w2 w3 (nI v) = _
  unfold s_X8_bestOrder_12
  rw [if_neg (show ¬ (2 : Int32) < nI v from nI_nlt (a := 2) (b := v) hv (by decide)), y1, ebnd, eLet, q1, ebnd2, ← es]
  by_cases c : nI (ordS n t CC M v) ≤ w3
  · rw [if_pos c, if_pos c, eLet, nI_1]
  · rw [if_neg c, if_neg c, eLet, nI_1]
theorem ordS_le (n t CC : Nat) (M : OS) (v : Nat) : ordS n t CC M v ≤ CC := by
  unfold ordS
  cases mT n t (sA M 9 (upd (M.2.1 9) 1 (nI v))) with
  | none => exact Nat.zero_le _
  | some M' => exact Nat.le_trans (Nat.sub_le _ _) (fb_ct_le _ _)
theorem best_ok (hU : Ru P NP E Bs F Pt Ap ru M) (h : RR P NP 2100 T LC CC FC no (M.2.1 9)) (hn : 2500 < n) {t : Nat} (ht1 : 1 ≤ t) (ht2 : t ≤ 500) (hT : T + t ≤ 2000) : ∃ y b, b ≤ 2 ∧ f_X8_bestOrder n sv x ru no fo (nI t) = some (y, nI b, 0) ∧ ∀ v, v ≤ 2 → ordS n t CC M v ≤ ordS n t CC M b := by
  have h60 := h.1.C60
  have l0 := ordS_le n t CC M 0
  have l1 := ordS_le n t CC M 1
  have l2 := ordS_le n t CC M 2
  have fin : ∀ (y : OS) (w2 w3 : Int32) (N : Nat), l_X8_bestOrder_12 n sv x ru no (nI t) (N + 1) y w2 w3 (nI 3) = some (y, w2, 0) := fun y w2 w3 N => by
    show s_X8_bestOrder_12 n sv x ru no (nI t) _ y w2 w3 (nI 3) = _
    unfold s_X8_bestOrder_12
    rw [if_pos (show (2 : Int32) < nI 3 from by decide)]
  have all : ∀ b, ordS n t CC M 0 ≤ ordS n t CC M b → ordS n t CC M 1 ≤ ordS n t CC M b → ordS n t CC M 2 ≤ ordS n t CC M b → ∀ v, v ≤ 2 → ordS n t CC M v ≤ ordS n t CC M b := fun b b0 b1 b2 v hv => by
    have : v = 0 ∨ v = 1 ∨ v = 2 := by omega
    rcases this with rfl | rfl | rfl
    · exact b0
    · exact b1
    · exact b2
  obtain ⟨N, rfl⟩ : ∃ N, n = N + 1 + 1 + 1 + 1 := ⟨n - 4, by omega⟩
  unfold f_X8_bestOrder
  rw [c_needTicks, ebnd, tk_ok ht1 ht2, if_pos rfl, if_pos rfl]
  obtain ⟨y0, k0⟩ := best_step (sv := sv) (x := x) hU h hn (t := t) (v := 0) (by omega) hT fo (N + 1 + 1 + 1) 0 (-1)
  have k0' : l_X8_bestOrder_12 (N + 1 + 1 + 1 + 1) sv x ru no (nI t) (N + 1 + 1 + 1 + 1) fo (0 : Int32) (-1 : Int32) (0 : Int32) = _ := k0
  rw [k0', if_neg (show ¬ nI (ordS (N + 1 + 1 + 1 + 1) t CC M 0) ≤ (-1 : Int32) from fun z => by
    rw [fa_le, nI_toInt (by omega), show (-1 : Int32).toInt = -1 from by decide] at z
    omega)]
  obtain ⟨y1, k1⟩ := best_step (sv := sv) (x := x) hU h hn (t := t) (v := 1) (by omega) hT y0 (N + 1 + 1) (nI 0) (nI (ordS (N + 1 + 1 + 1 + 1) t CC M 0))
  rw [k1]
  by_cases c1 : ordS (N + 1 + 1 + 1 + 1) t CC M 1 ≤ ordS (N + 1 + 1 + 1 + 1) t CC M 0
  · rw [if_pos (nI_le c1 (by omega))]
    obtain ⟨y2, k2⟩ := best_step (sv := sv) (x := x) hU h hn (t := t) (v := 2) (by omega) hT y1 (N + 1) (nI 0) (nI (ordS (N + 1 + 1 + 1 + 1) t CC M 0))
    rw [k2]
    by_cases c2 : ordS (N + 1 + 1 + 1 + 1) t CC M 2 ≤ ordS (N + 1 + 1 + 1 + 1) t CC M 0
    · rw [if_pos (nI_le c2 (by omega))]
      exact ⟨y2, 0, by omega, fin _ _ _ _, all 0 (Nat.le_refl _) c1 c2⟩
    · rw [if_neg (nI_ge (by omega) (by omega))]
      exact ⟨y2, 2, by omega, fin _ _ _ _, all 2 (by omega) (by omega) (Nat.le_refl _)⟩
  · rw [if_neg (nI_ge (by omega) (by omega))]
    obtain ⟨y2, k2⟩ := best_step (sv := sv) (x := x) hU h hn (t := t) (v := 2) (by omega) hT y1 (N + 1) (nI 1) (nI (ordS (N + 1 + 1 + 1 + 1) t CC M 1))
    rw [k2]
    by_cases c2 : ordS (N + 1 + 1 + 1 + 1) t CC M 2 ≤ ordS (N + 1 + 1 + 1 + 1) t CC M 1
    · rw [if_pos (nI_le c2 (by omega))]
      exact ⟨y2, 1, by omega, fin _ _ _ _, all 1 (by omega) (Nat.le_refl _) c2⟩
    · rw [if_neg (nI_ge (by omega) (by omega))]
      exact ⟨y2, 2, by omega, fin _ _ _ _, all 2 (by omega) (by omega) (Nat.le_refl _)⟩
end FORE9
