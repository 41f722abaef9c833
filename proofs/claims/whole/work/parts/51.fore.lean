/-! the forecasts -/
section FORE
variable {P NP D K T LC CC FC E Bs F Pt Ap n : Nat} {c no fo ru M x : OS} {sv : Value} {p3 : Nat → Int64}
theorem addsub (a s : Int32) : a + s - a = s := by rw [Int32.add_comm, Int32.add_sub_cancel]
theorem LKf_ok {fo' M' : OS} {r : Int32} {o : Option (OS × (Nat → Int64) × Int32)} {o2 : Option (OS × Int32)} (h1 : o = some (fo', vp_updL p3 0 r.toInt64, 0)) (h2 : o2 = some (M', r)) (h3 : EqM M M') (h4 : M'.1 0 = 0) : LKf M o o2 := ⟨_, _, _, M', r, h1, h2, h3, h4, fun _ => pk_uLs⟩
theorem LKf_no {fo' M' : OS} {k b : Int32} {o : Option (OS × (Nat → Int64) × Int32)} {o2 : Option (OS × Int32)} (h1 : o = some (fo', p3, k)) (hk : k ≠ 0) (h2 : o2 = some (M', b)) (h3 : EqM M M') (h4 : M'.1 0 = k) : LKf M o o2 := ⟨_, _, _, M', b, h1, h2, h3, h4, fun h => absurd h hk⟩
/-- a trial is over: the row lies as it lay -/
theorem EqM.back {Mx M1 : OS} {y y' : Nat → Int32} (h : EqM M Mx) (hy : ∀ i, i < 1846 → y i = Mx.2.1 9 i) (hf : Fr (sA Mx 12 y) M1) (hy' : ∀ i, i < 1846 → y' i = M1.2.1 12 i) : EqM M (sA M1 9 y') := by
  refine ⟨fun j a b d => ?_, fun j a b d e => ?_, fun i hi => ?_, ?_⟩
  · rw [sA_1, hf.1 j b d, sA_1, h.1 j a b d]
  · rw [sA_o a, hf.2.1 j a e, sA_o d, h.2.1 j a b d e]
  · rw [sA_get, hy' i hi, hf.2.1 12 (by decide) (by decide), sA_get, hy i hi, h.2.2.1 i hi]
  · rw [sA_22, hf.2.2, sA_22, h.2.2.2]
theorem trial {many : Nat} (hU : Ru P NP E Bs F Pt Ap ru M) (hn : 2500 < n) (hD : 2100 ≤ D) (hD2 : D ≤ 100000) (hRR : RR P NP D T LC CC FC c (M.2.1 9)) (hmany : many ≤ 2000) (hno : no.1 0 = nI T) : ∃ c' M' s, f_X8_pass n sv x ru no c (nI many) = some (c', s) ∧ f_X9_goesOn n M (nI many) = some (M', s) ∧ TKn P NP D T LC CC FC E (min many (2000 - T)) c M c' M' s := by
  have hT := hRR.1.time.2.2
  have hall := fun i hi => ticks (n := n) hU (by omega) hD hD2 hRR i (show T + i ≤ 2000 from hi)
  obtain ⟨c', M', s, h1, h2, h3⟩ := hall (min many (2000 - T)) (by omega)
  obtain ⟨r, r1, r2⟩ := c_pass (n := n) (ru := ru) (sv := sv) (th := x) (no := no) (fo := c) (a := min many (2000 - T)) rfl hT hmany hn hno (fun i hi => by
    obtain ⟨c1, M1, s1, k1, _⟩ := hall i (by omega)
    exact ⟨(c1, s1), k1⟩)
  obtain ⟨M2, q1, q2⟩ := m_goesOn (n := n) (M := M) (a := min many (2000 - T)) rfl hT hmany hn (fun i hi => by
    obtain ⟨c1, M1, s1, _, k2, LC1, FC1, k3, _⟩ := hall i (by omega)
    exact ⟨M1, k2, k3.1.time.1⟩)
  have e1 : r = (c', s) := Option.some.inj (r1.symm.trans h1)
  have e2 : M2 = M' := Option.some.inj (q1.symm.trans h2)
  subst e1
  subst e2
  refine ⟨c', M2, s, r2, ?_, h3⟩
  obtain ⟨_, _, _, _, _, k5, _⟩ := h3
  rw [q2, k5, addsub]
/-- a trial that goes to the next hearing -/
def TKh (P NP D T LC CC E : Nat) (c M c' M' : OS) : Prop := ∃ LC' FC', RR P NP D (nxt T E) LC' CC FC' c' (M'.2.1 9) ∧ LC ≤ LC' ∧ Fr M M' ∧ HW LC LC' c' M M'
theorem trialHearing (hU : Ru P NP E Bs F Pt Ap ru M) (hn : 2500 < n) (hD : 2100 ≤ D) (hD2 : D ≤ 100000) (hRR : RR P NP D T LC CC FC c (M.2.1 9)) (hno : no.1 0 = nI T) (hx : nxt T E ≤ 2000) : ∃ c' M' s, f_X8_passToHearing n sv x ru no c = some c' ∧ f_X9_goesOn n M (nI (nxt T E - T)) = some (M', s) ∧ TKh P NP D T LC CC E c M c' M' := by
  have hT := hRR.1.time.2.2
  have hE : 1 ≤ E := hU.2.2.2.2.2.1
  have hg := nxt_gt (T := T) hE
  have hall := fun i hi => ticks (n := n) hU (by omega) hD hD2 hRR i (show T + i ≤ 2000 from hi)
  obtain ⟨b, hb⟩ : ∃ b, nxt T E - T = b + 1 := ⟨nxt T E - T - 1, by omega⟩
  obtain ⟨c1, M1, s1, a1, a2, LC1, FC1, b1, b2, b3, b4, b5, b6⟩ := hall b (by omega)
  obtain ⟨k1, k2⟩ := b6 fun i hi => nxt_mod hE (by omega)
  obtain ⟨c2, M2, met, d1, d2, LC2, FC2, e1, e2, e3, e4, e5, e6, e7⟩ := tick (n := n) b1 (hU.Fr b3) (by omega) hD hD2 (by omega)
  have hTb : T + b + 1 = nxt T E := by omega
  have hw := e7 (by rw [hTb]; exact nxt_0 T E)
  have g1 : cT n ru (b + 1) c = some (c2, s1 + met) := by
    show bnd2 (cT n ru b c) _ = _
    rw [a1, ebnd2, d1, ebnd2]
  have g2 : mT n (b + 1) M = some M2 := by
    show bnd (mT n b M) _ = _
    rw [a2, ebnd, d2]
  obtain ⟨r, r1, r2⟩ := c_toHearing (n := n) (ru := ru) (sv := sv) (th := x) (no := no) (fo := c) hU hT hn hno hx (fun i hi => by
    obtain ⟨c1, M1, s1, k1, _⟩ := hall i (by omega)
    exact ⟨(c1, s1), k1⟩)
  obtain ⟨M3, q1, q2⟩ := m_goesOn (n := n) (M := M) (a := nxt T E - T) (many := nxt T E - T) (by omega) hT (by omega) hn (fun i hi => by
    obtain ⟨c1, M1, s1, _, k2, LC1, FC1, k3, _⟩ := hall i (by omega)
    exact ⟨M1, k2, k3.1.time.1⟩)
  rw [hb] at r1 q1
  have f1 : r = (c2, s1 + met) := Option.some.inj (r1.symm.trans g1)
  have f2 : M3 = M2 := Option.some.inj (q1.symm.trans g2)
  subst f1
  subst f2
  refine ⟨c2, M3, _, r2, q2, LC2, FC2, by rw [← hTb]; exact e1, by omega, b3.tr e3, ?_⟩
  unfold HW at hw ⊢
  rw [← k1, ← k2]
  exact hw
/-! what a claim becomes -/
theorem m_46 (hn : 2000 < n) {q i w : Nat} (hq : q < 60) : ∃ y, j_X9_becomesIn_46 n (nI q) (nI w) M (nI i) = some (sA M 9 y, if M.2.1 9 (602 + 7 * q + 3) = nI w then nI i else -1) ∧ ∀ k, k < 1846 → y k = M.2.1 12 k := by
  unfold j_X9_becomesIn_46 j_X9_becomesIn_61
  rw [mC3 hq, ebnd]
  by_cases h : M.2.1 9 (602 + 7 * q + 3) = nI w
  · obtain ⟨y, h1, h2⟩ := m_laysBack (n := n) (M := M) hn (nI i)
    refine ⟨y, ?_, h2⟩
    rw [if_pos h, if_pos h, if_neg (show ¬ (1 : Int32) = 0 from by decide), h1, ebnd2]
  · obtain ⟨y, h1, h2⟩ := m_laysBack (n := n) (M := M) hn (-1)
    refine ⟨y, ?_, h2⟩
    rw [if_neg h, if_neg h, if_pos rfl, h1, ebnd2]
theorem c_untilNo (hn : 2500 < n) (hD : 2100 ≤ D) (hD2 : D ≤ 100000) {q w a : Nat} (hTa : T + a ≤ 2000) (hq : q < CC) : ∀ (d i N : Nat) (c M : OS) (LC FC : Nat), Ru P NP E Bs F Pt Ap ru M → RR P NP D (T + i) LC CC FC c (M.2.1 9) → i + d = a → wt (M.2.1 9) q = false → M.2.1 9 (602 + 7 * q + 3) ≠ nI w → d < N → ∃ c', l_X8_ticksUntil_44 n sv x ru no (nI q) (nI w) (nI a) N c (nI (i + 1)) = some (c', -1)
  | 0, i, N, c, M, LC, FC, hU, hRR, hi, hwt, hne, hN => by
    obtain ⟨N', rfl⟩ : ∃ N', N = N' + 1 := ⟨N - 1, by omega⟩
    refine ⟨c, ?_⟩
    show s_X8_ticksUntil_44 n sv x ru no (nI q) (nI w) (nI a) _ c (nI (i + 1)) = _
    unfold s_X8_ticksUntil_44
    rw [if_pos (nI_lt (by omega) (by omega))]
  | d + 1, i, N, c, M, LC, FC, hU, hRR, hi, hwt, hne, hN => by
    obtain ⟨N', rfl⟩ : ∃ N', N = N' + 1 := ⟨N - 1, by omega⟩
    obtain ⟨c2, M2, met, d1, d2, LC2, FC2, e1, e2, e3, e4, e5, _⟩ := tick (n := n) hRR hU (by omega) hD hD2 (by omega)
    have hst := e5 q hq hwt
    have hg : f_X6_get n (7 : Int32) 420 (c2.2.1 13) (nI q) (3 : Int32) = some (M2.2.1 9 (602 + 7 * q + 3)) := c_claimV (j := 3) e1.1 hq (by decide)
    obtain ⟨c', h'⟩ := c_untilNo hn hD hD2 hTa hq d (i + 1) N' c2 M2 LC2 FC2 (hU.Fr e3) (by rw [← Nat.add_assoc]; exact e1) (by omega) (by unfold wt at hwt ⊢; rw [hst]; exact hwt) (by rw [hst]; exact hne) (by omega)
    refine ⟨c', ?_⟩
    show s_X8_ticksUntil_44 n sv x ru no (nI q) (nI w) (nI a) _ c (nI (i + 1)) = _
    unfold s_X8_ticksUntil_44
    rw [if_neg (nI_nlt (by omega) (by omega)), d1, ebnd2, hg, ebnd, hst, if_neg hne, eLet, nI_1]
    exact h'
theorem until_go (hn : 2500 < n) (hD : 2100 ≤ D) (hD2 : D ≤ 100000) {q w a many : Nat} (ha : a = min many (2000 - T)) (hT : T ≤ 2000) (hmany : many ≤ 2000) (hw : 1 ≤ w) (hw2 : w ≤ 2) (hq : q < CC) (hq60 : q < 60) : ∀ (d i N N2 : Nat) (c M : OS) (LC FC : Nat), Ru P NP E Bs F Pt Ap ru M → RR P NP D (T + i) LC CC FC c (M.2.1 9) → i + d = a → wt (M.2.1 9) q = true → d < N → d < N2 → ∃ c' M' y r, l_X8_ticksUntil_44 n sv x ru no (nI q) (nI w) (nI a) N c (nI (i + 1)) = some (c', r) ∧ l_X9_becomesIn_7 n (nI q) (nI many) (nI w) N2 M (nI i) = some (sA M' 9 y, r) ∧ Fr M M' ∧ (∀ k, k < 1846 → y k = M'.2.1 12 k)
  | 0, i, N, N2, c, M, LC, FC, hU, hRR, hi, hwt, hN, hN2 => by
    obtain ⟨N', rfl⟩ : ∃ N', N = N' + 1 := ⟨N - 1, by omega⟩
    obtain ⟨N2', rfl⟩ : ∃ N', N2 = N' + 1 := ⟨N2 - 1, by omega⟩
    obtain ⟨y, y1, y2⟩ := m_46 (n := n) (M := M) (q := q) (i := i) (w := w) (by omega) hq60
    have h0 : M.2.1 9 (602 + 7 * q + 3) = 0 := by
      unfold wt at hwt
      exact of_decide_eq_true hwt
    have hne : ¬ M.2.1 9 (602 + 7 * q + 3) = nI w := by
      rw [h0]
      intro z
      have := nI_inj (a := 0) (b := w) (by decide) (by omega) z
      omega
    rw [if_neg hne] at y1
    refine ⟨c, M, y, -1, ?_, ?_, Fr.rf M, y2⟩
    · show s_X8_ticksUntil_44 n sv x ru no (nI q) (nI w) (nI a) _ c (nI (i + 1)) = _
      unfold s_X8_ticksUntil_44
      rw [if_pos (nI_lt (by omega) (by omega))]
    · show s_X9_becomesIn_7 n (nI q) (nI many) (nI w) _ M (nI i) = _
      unfold s_X9_becomesIn_7
      by_cases hm : many ≤ i
      · rw [if_pos (nI_le hm (by omega)), y1]
      · rw [if_neg (nI_ge (show i < many by omega) (by omega)), gz0, hRR.1.time.1, if_pos (show (2000 : Int32) ≤ nI (T + i) from nI_le (a := 2000) (b := T + i) (by omega) (by omega)), y1]
  | d + 1, i, N, N2, c, M, LC, FC, hU, hRR, hi, hwt, hN, hN2 => by
    obtain ⟨N', rfl⟩ : ∃ N', N = N' + 1 := ⟨N - 1, by omega⟩
    obtain ⟨N2', rfl⟩ : ∃ N', N2 = N' + 1 := ⟨N2 - 1, by omega⟩
    obtain ⟨c2, M2, met, d1, d2, LC2, FC2, e1, e2, e3, e4, e5, _⟩ := tick (n := n) hRR hU (by omega) hD hD2 (by omega)
    have hg : f_X6_get n (7 : Int32) 420 (c2.2.1 13) (nI q) (3 : Int32) = some (M2.2.1 9 (602 + 7 * q + 3)) := c_claimV (j := 3) e1.1 hq (by decide)
    have hc : l_X8_ticksUntil_44 n sv x ru no (nI q) (nI w) (nI a) (N' + 1) c (nI (i + 1)) = if M2.2.1 9 (602 + 7 * q + 3) = nI w then some (c2, nI (i + 1)) else l_X8_ticksUntil_44 n sv x ru no (nI q) (nI w) (nI a) N' c2 (nI (i + 1 + 1)) := by
      show s_X8_ticksUntil_44 n sv x ru no (nI q) (nI w) (nI a) _ c (nI (i + 1)) = _
      unfold s_X8_ticksUntil_44
      rw [if_neg (nI_nlt (by omega) (by omega)), d1, ebnd2, hg, ebnd, eLet, nI_1]
    have hm : l_X9_becomesIn_7 n (nI q) (nI many) (nI w) (N2' + 1) M (nI i) = l_X9_becomesIn_7 n (nI q) (nI many) (nI w) N2' M2 (nI (i + 1)) := by
      show s_X9_becomesIn_7 n (nI q) (nI many) (nI w) _ M (nI i) = _
      unfold s_X9_becomesIn_7
      rw [if_neg (nI_ge (show i < many by omega) (by omega)), gz0, hRR.1.time.1, if_neg (show ¬ (2000 : Int32) ≤ nI (T + i) from nI_ge (a := T + i) (b := 2000) (by omega) (by omega)), m_doesWait hq60, ebnd, ifz, if_pos hwt, d2, ebnd, eLet, nI_1]
    rw [hc, hm]
    have e1' : RR P NP D (T + (i + 1)) LC2 CC FC2 c2 (M2.2.1 9) := by
      rw [← Nat.add_assoc]
      exact e1
    cases hwt2 : wt (M2.2.1 9) q with
    | true =>
      have h0 : M2.2.1 9 (602 + 7 * q + 3) = 0 := by
        unfold wt at hwt2
        exact of_decide_eq_true hwt2
      have hne : ¬ M2.2.1 9 (602 + 7 * q + 3) = nI w := by
        rw [h0]
        intro z
        have := nI_inj (a := 0) (b := w) (by decide) (by omega) z
        omega
      rw [if_neg hne]
      obtain ⟨c', M', y, r, z1, z2, z3, z4⟩ := until_go hn hD hD2 ha hT hmany hw hw2 hq hq60 d (i + 1) N' N2' c2 M2 LC2 FC2 (hU.Fr e3) e1' (by omega) hwt2 (by omega) (by omega)
      exact ⟨c', M', y, r, z1, z2, e3.tr z3, z4⟩
    | false =>
      obtain ⟨N3, rfl⟩ : ∃ N', N2' = N' + 1 := ⟨N2' - 1, by omega⟩
      obtain ⟨y, y1, y2⟩ := m_46 (n := n) (M := M2) (q := q) (i := i + 1) (w := w) (by omega) hq60
      have hm2 : l_X9_becomesIn_7 n (nI q) (nI many) (nI w) (N3 + 1) M2 (nI (i + 1)) = some (sA M2 9 y, if M2.2.1 9 (602 + 7 * q + 3) = nI w then nI (i + 1) else -1) := by
        show s_X9_becomesIn_7 n (nI q) (nI many) (nI w) _ M2 (nI (i + 1)) = _
        unfold s_X9_becomesIn_7
        rw [gz0, m_doesWait hq60, ebnd, ifz, hwt2, if_neg (show ¬ (false = true) from by decide), y1, ite_self, ite_self]
      rw [hm2]
      by_cases hs : M2.2.1 9 (602 + 7 * q + 3) = nI w
      · rw [if_pos hs, if_pos hs]
        exact ⟨c2, M2, y, _, rfl, rfl, e3, y2⟩
      · rw [if_neg hs, if_neg hs]
        obtain ⟨c', h'⟩ := c_untilNo (n := n) (sv := sv) (x := x) (no := no) hn hD hD2 (a := a) (w := w) (by omega) hq d (i + 1) N' c2 M2 LC2 FC2 (hU.Fr e3) e1' (by omega) hwt2 hs (by omega)
        exact ⟨c', M2, y, -1, h', rfl, e3, y2⟩
theorem untilBoth (hU : Ru P NP E Bs F Pt Ap ru M) (hRR : RR P NP D T LC CC FC no (M.2.1 9)) (hn : 2500 < n) (hD : 2100 ≤ D) (hD2 : D ≤ 100000) {q w many : Nat} (hmany : many ≤ 500) (hw : 1 ≤ w) (hw2 : w ≤ 2) (hq : q < CC) : ∃ fo' M' r, f_X8_ticksUntil n sv x ru no fo (nI q) (nI w) (nI many) = some (fo', r) ∧ (if wt (M.2.1 9) q then f_X9_becomesIn n M (nI q) (nI many) (nI w) else some (M, (-1 : Int32))) = some (M', r) ∧ EqM M M' ∧ M'.1 0 = M.1 0 := by
  have hR := hRR.1
  have h60 := hR.C60
  have hT := hR.time
  unfold f_X8_ticksUntil f_X9_becomesIn
  rw [c_waits hR hq, ebnd, ifz]
  cases hwt : wt (M.2.1 9) q with
  | false => exact ⟨fo, M, -1, rfl, rfl, EqM.rf M, rfl⟩
  | true =>
    obtain ⟨c', hc1, hc2⟩ := c_copy (n := n) fo no
    obtain ⟨y, y1, y2⟩ := m_tries (n := n) (M := M) (by omega)
    have hRR2 : RR P NP D (T + 0) LC CC FC c' ((sA M 12 y).2.1 9) := hRR.cpy hc2 fun _ _ => rfl
    have hmin : (if ((2000 : Int32) - (no.1 0)) < nI many then ((2000 : Int32) - (no.1 0)) else nI many) = nI (min many (2000 - T)) := by
      rw [hT.2.1, show (2000 : Int32) - nI T = nI (2000 - T) from pk_sub (a := 2000) hT.2.2, minI (by omega) (by omega), Nat.min_comm]
    obtain ⟨c2, M2, y', r, z1, z2, z3, z4⟩ := until_go (n := n) (sv := sv) (x := x) (no := no) hn hD hD2 (a := min many (2000 - T)) rfl hT.2.2 (by omega) hw hw2 hq (by omega) (min many (2000 - T)) 0 n n c' (sA M 12 y) LC FC (hU.fr fun _ _ _ => rfl) hRR2 (by omega) hwt (by omega) (by omega)
    rw [if_pos rfl, if_pos rfl, hc1, ebnd, hmin, eLet, y1, ebnd]
    exact ⟨c2, sA M2 9 y', r, z1, z2, EqM.back (EqM.rf M) y2 z3 z4, z3.1 0 (by decide) (by decide)⟩
theorem lk_untilIn (hU : Ru P NP E Bs F Pt Ap ru M) (hRR : RR P NP D T LC CC FC no (M.2.1 9)) (hn : 2500 < n) (hD : 2100 ≤ D) (hD2 : D ≤ 100000) {k : Nat} (hw : 1 ≤ k) (hw2 : k ≤ 2) (v w : Int32) : LKf M (bnd3 (bnd (f_X8_needClaim n sv x no v) (fun (cd_1 : Nat) => if cd_1 = 0 then (bnd (f_X8_needTicks n sv x w) (fun (cd_2 : Nat) => if cd_2 = 0 then (bnd2 (f_X8_ticksUntil n sv x ru no fo v (nI k) w) (fun (fo_3 : OS) (r_4 : Int32) => some (fo_3, r_4, 0))) else (some (fo, (0 : Int32), cd_2)))) else (some (fo, (0 : Int32), cd_1)))) (fun (p0fo_1 : OS) (r_2 : Int32) (cd_3 : Nat) => if cd_3 = 0 then (gI 1 (0 : Int32) (Let (vp_updL p3 (0 : Int32).toNatClampNeg ((r_2).toInt64)) (fun p3_4 : Nat → Int64 => some (p0fo_1, p3_4, (0 : Int32))))) else (if cd_3 = 1 then (some (p0fo_1, p3, (1 : Int32))) else (if cd_3 = 2 then (some (p0fo_1, p3, (2 : Int32))) else (none))))) (bnd (f_X9_isClaim n M v) (fun (r_1 : Int32) => bnd2 (f_X9_is n M r_1) (fun (th_2 : OS) (r_3 : Int32) => if r_3 = 0 then (some (th_2, (0 : Int32))) else (bnd (f_X9_areTicks n w) (fun (r_4 : Int32) => bnd2 (f_X9_may n th_2 r_4 (2 : Int32)) (fun (th_5 : OS) (r_6 : Int32) => if r_6 = 0 then (some (th_5, (0 : Int32))) else (bnd (f_X9_doesWait n th_5 v) (fun (r_7 : Int32) => if r_7 = 0 then (some (th_5, (-1 : Int32))) else (bnd2 (f_X9_becomesIn n th_5 v w (nI k)) (fun (th_8 : OS) (r_9 : Int32) => some (th_8, r_9)))))))))) ) := by
  have hR := hRR.1
  have h60 := hR.C60
  rw [c_needClaim hR.claims, ebnd, m_isClaim hR.mclaims h60, ebnd, m_is, ebnd2, ifz]
  cases hv : vb v CC with
  | false => exact LKf_no (p3 := p3) (k := 1) rfl (by decide) rfl (EqM.told M 1) rfl
  | true =>
    obtain ⟨q, hq, rfl⟩ := vb_ok (by omega) hv
    rw [if_pos rfl, if_pos rfl, if_pos rfl, c_needTicks, ebnd, m_areTicks, ebnd, m_may, ebnd2, ifz]
    cases hw : tkb w with
    | false => exact LKf_no (p3 := p3) (k := 2) rfl (by decide) rfl ((EqM.told M 0).tr (EqM.told _ 2)) rfl
    | true =>
      obtain ⟨t, ht1, ht2, rfl⟩ := tkb_ok hw
      obtain ⟨fo', M', r, z1, z2, z3, z4⟩ := untilBoth (n := n) (sv := sv) (x := x) (fo := fo) (M := sI (sI M 0 0) 0 0) (hU.fr fun j h1 _ => by rw [sI_o (by omega), sI_o (by omega)]) hRR hn hD hD2 ht2 ‹1 ≤ k› hw2 hq
      have hz : (bnd (f_X9_doesWait n (sI (sI M 0 0) 0 0) (nI q)) (fun (r_7 : Int32) => if r_7 = 0 then (some (sI (sI M 0 0) 0 0, (-1 : Int32))) else (bnd2 (f_X9_becomesIn n (sI (sI M 0 0) 0 0) (nI q) (nI t) (nI k)) (fun (th_8 : OS) (r_9 : Int32) => some (th_8, r_9))))) = some (M', r) := by
        rw [m_doesWait (by omega), ebnd, ifz]
        rw [show (sI (sI M 0 0) 0 0).2.1 9 = M.2.1 9 from rfl] at z2 ⊢
        cases hb : wt (M.2.1 9) q with
        | false =>
          rw [hb] at z2
          exact z2
        | true =>
          rw [hb, if_pos rfl] at z2
          rw [if_pos rfl, z2, ebnd2]
      rw [if_pos rfl, if_pos rfl, if_pos rfl, z1, ebnd2, ebnd3, if_pos rfl, ho0]
      exact LKf_ok (p3 := p3) rfl hz (((EqM.told M 0).tr (EqM.told _ 0)).tr z3) (z4.trans rfl)
theorem lk_metIn (hU : Ru P NP E Bs F Pt Ap ru M) (hRR : RR P NP D T LC CC FC no (M.2.1 9)) (hn : 2500 < n) (hD : 2100 ≤ D) (hD2 : D ≤ 100000) (v w : Int32) : LKf M (f_L_metIn n sv x ru no fo 1 p3 v w) (f_X9_metIn n M v w) := lk_untilIn (k := 1) hU hRR hn hD hD2 (by decide) (by decide) v w
theorem lk_refusedIn (hU : Ru P NP E Bs F Pt Ap ru M) (hRR : RR P NP D T LC CC FC no (M.2.1 9)) (hn : 2500 < n) (hD : 2100 ≤ D) (hD2 : D ≤ 100000) (v w : Int32) : LKf M (f_L_refusedIn n sv x ru no fo 1 p3 v w) (f_X9_refusedIn n M v w) := lk_untilIn (k := 2) hU hRR hn hD hD2 (by decide) (by decide) v w
end FORE
