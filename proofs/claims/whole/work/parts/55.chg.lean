/-! the methods that change -/
/-- the law's helper and the model changed alike -/
def LKc (D : Nat) (x inp ou ru rd M : OS) (so : Option OS) (o : Option (OS × PS × (Nat → Int64) × Int32)) (o2 : Option (OS × Int32)) : Prop := ∃ no' pa' p3 k M' b, o = some (no', pa', p3, k) ∧ o2 = some (M', b) ∧ RX D x inp ou ru no' rd pa' M' so ∧ M'.1 0 = k ∧ (k = 0 → p3 0 = b.toInt64)
section CHG
variable {P NP D D2 K T LC CC FC E Bs F Pt Ap n : Nat} {c x inp ou ru no rd M : OS} {pa : PS} {so : Option OS} {sv : Value} {p3 : Nat → Int64} {m : Nat → Int32}
theorem LKc_ok {no' M' : OS} {pa' : PS} {r : Int32} {o : Option (OS × PS × (Nat → Int64) × Int32)} {o2 : Option (OS × Int32)} (h1 : o = some (no', pa', vp_updL p3 0 r.toInt64, 0)) (h2 : o2 = some (M', r)) (h3 : RX D x inp ou ru no' rd pa' M' so) (h4 : M'.1 0 = 0) : LKc D x inp ou ru rd M so o o2 := ⟨_, _, _, _, M', r, h1, h2, h3, h4, fun _ => pk_uLs⟩
theorem LKc_no {M' : OS} {k b : Int32} {o : Option (OS × PS × (Nat → Int64) × Int32)} {o2 : Option (OS × Int32)} (h : RXx P NP E Bs F Pt Ap T LC CC FC D x inp ou ru no rd pa M so) (hD : D ≤ D2) (h1 : o = some (no, pa, p3, k)) (hk : k ≠ 0) (h2 : o2 = some (M', b)) (h3 : EqM M M') (h4 : M'.1 0 = k) : LKc D2 x inp ou ru rd M so o o2 := ⟨_, _, _, _, M', b, h1, h2, (h.rx.eqM h3 (Cpy.rf no)).mono hD, h4, fun h => absurd h hk⟩
theorem RXx.done {M1 M2 no' : OS} {y : Nat → Int32} {D' T' LC' CC' FC' : Nat} (h : RXx P NP E Bs F Pt Ap T LC CC FC D x inp ou ru no rd pa M so) (he : EqM M M1) (hy : ∀ i, i < 1846 → y i = M1.2.1 9 i) (hf : Fr (sA M1 11 y) M2) (hr : RR P NP D' T' LC' CC' FC' no' (M2.2.1 9)) (hD : D ≤ D') (hn : 13000 < n) (v : Int32) : ∃ pa' M3, f_X3_keep n pa no = some pa' ∧ f_X9_done n M2 v = some (M3, v) ∧ RX D' x inp ou ru no' rd pa' M3 so ∧ M3.1 0 = M1.1 0 := by
  obtain ⟨h1, h2, h3, h4, h5, h6, h7, h8, h9, h10⟩ := h
  obtain ⟨nx, k, a1, a2, a3, a4, a5, a6, a7⟩ := id h7
  have i2 : ∀ j, j ≠ 0 → j ≠ 18 → j ≠ 20 → M2.1 j = M.1 j := fun j b1 b2 b3 => by rw [hf.1 j b2 b3, sA_1, he.1 j b1 b2 b3]
  have r2 : ∀ j, j ≠ 9 → j ≠ 11 → j ≠ 12 → j ≠ 21 → M2.2.1 j = M.2.1 j := fun j b1 b2 b3 b4 => by rw [hf.2.1 j b1 b4, sA_o b2, he.2.1 j b1 b2 b3 b4]
  have e15 : M2.1 15 = nI k := (i2 15 (by decide) (by decide) (by decide)).trans a5
  have e14 : M2.2.1 14 = M.2.1 14 := r2 14 (by decide) (by decide) (by decide) (by decide)
  have e11 : ∀ j, j < 1846 → M2.2.1 11 j = M.2.1 9 j := fun j hj => by rw [hf.2.1 11 (by decide) (by decide), sA_get, hy j hj, he.2.2.1 j hj]
  obtain ⟨g, g1, g2, g3⟩ := m_done (n := n) M2 v e15 a2 hn
  obtain ⟨pa', k1, k2⟩ := c_keep (n := n) (M2 := sI (sA M2 14 g) 15 (nI (min (k + 1) 8))) h7 ⟨T, LC, CC, FC, h3⟩ a5 a2 (by rw [sI_2, sA_get]) sI_s (fun q => ⟨fun j hj => ((g2 q).1 j hj).trans (e11 j hj), fun j hj => by rw [(g2 q).2 j hj, e14]⟩) (fun q => ⟨fun j hj => ((g3 q).1 j hj).trans (e11 j hj), fun j hj => by rw [(g3 q).2 j hj, e14]⟩)
  refine ⟨pa', _, k1, g1, ⟨P, NP, E, Bs, F, Pt, Ap, T', LC', CC', FC', h1.fr fun j b1 b2 => ?_, ?_, ?_, ?_, ?_, ?_, k2.mono hD, ?_, ?_, ?_⟩, ?_⟩
  · rw [sI_o (by omega), sA_1, i2 j (by omega) (by omega) (by omega)]
  · obtain ⟨ln, z, q⟩ := h2
    refine ⟨ln, z, fun p hp => ?_⟩
    have e : (sI (sA M2 14 g) 15 (nI (min (k + 1) 8))).2.2.1 8 = M.2.2.1 8 := by
      rw [sI_2, sA_22, hf.2.2, sA_22, he.2.2.2]
    rw [e]
    exact q p hp
  · rw [sI_2, sA_o (by decide)]
    exact hr
  · obtain ⟨z, b1, b2, b3, b4⟩ := h4
    refine ⟨z, b1, b2, ?_, fun i hi => ?_⟩
    · rw [sI_o (by decide), sA_1, i2 23 (by decide) (by decide) (by decide), b3]
    · rw [sI_2, sA_o (by decide), r2 22 (by decide) (by decide) (by decide) (by decide)]
      exact b4 i hi
  · obtain ⟨z, b1, b2, b3, b4⟩ := h5
    refine ⟨z, b1, b2, ?_, fun i hi => ?_⟩
    · rw [sI_o (by decide), sA_1, i2 40 (by decide) (by decide) (by decide), b3]
    · rw [sI_2, sA_o (by decide), r2 39 (by decide) (by decide) (by decide) (by decide)]
      exact b4 i hi
  · rw [sI_o (by decide), sI_o (by decide), sA_1, i2 31 (by decide) (by decide) (by decide), i2 32 (by decide) (by decide) (by decide)]
    exact h6
  · obtain ⟨b, b1, b2, b3⟩ := h8
    refine ⟨b, b1, ?_, fun q => ?_⟩
    · rw [sI_o (by decide), sA_1, i2 16 (by decide) (by decide) (by decide), b2]
    · obtain ⟨c0, q1, q2⟩ := b3 q
      refine ⟨c0, q1, ?_⟩
      rw [sI_2, sA_o (by decide), r2 13 (by decide) (by decide) (by decide) (by decide)]
      exact q2.mono hD
  · rw [sI_o (by decide), sA_1, i2 17 (by decide) (by decide) (by decide), h9]
  · rw [sI_o (by decide), sA_1, i2 19 (by decide) (by decide) (by decide), h10]
  · rw [sI_o (by decide), sA_1, hf.1 0 (by decide) (by decide), sA_1]
theorem lk_run (h : RXx P NP E Bs F Pt Ap T LC CC FC D x inp ou ru no rd pa M so) (hn : 13000 < n) (hD : 2100 ≤ D) (hD2 : D ≤ 100000) (v : Int32) : LKc D x inp ou ru rd M so (f_L_run n sv x ru no pa 1 p3 v) (f_X9_run n M v) := by
  have hU := h.1
  have hRR := h.2.2.1
  have hT := hRR.1.time
  unfold f_L_run f_X8_run f_X9_run
  rw [c_needTicks, ebnd, m_areTicks, ebnd, m_is, ebnd2, ifz]
  cases hw : tkb v with
  | false => exact LKc_no (p3 := p3) (k := 1) h (Nat.le_refl D) rfl (by decide) rfl (EqM.told M 1) rfl
  | true =>
    obtain ⟨t, ht1, ht2, rfl⟩ := tkb_ok hw
    rw [if_pos rfl, if_pos rfl, if_pos rfl, gz0, show (sI M 0 (bI (!true))).2.1 9 0 = nI T from hT.1, hT.2.1, nI_add]
    by_cases hlt : T + t ≤ 2000
    · obtain ⟨y, y1, y2⟩ := m_starts (n := n) (M := sI (sI M 0 0) 0 0) (by omega)
      have hUy : Ru P NP E Bs F Pt Ap ru (sA (sI (sI M 0 0) 0 0) 11 y) := hU.fr fun j h1 _ => by rw [sA_1, sI_o (by omega), sI_o (by omega)]
      have hRR2 : RR P NP D T LC CC FC no ((sA (sI (sI M 0 0) 0 0) 11 y).2.1 9) := hRR
      have hall := fun i hi => ticks (n := n) hUy (by omega) hD hD2 hRR2 i (show T + i ≤ 2000 from hi)
      obtain ⟨c', M2, s, q1, q2, LC', FC', z3, _, z4, z5, _⟩ := hall t hlt
      obtain ⟨r, r1, r2⟩ := c_run (n := n) (ru := ru) (sv := sv) (th := x) (no := no) (pa := pa) (a := t) (by omega) (by omega) (fun i hi => by
        obtain ⟨c1, M1, s1, k1, _⟩ := hall i (by omega)
        exact ⟨(c1, s1), k1⟩)
      obtain ⟨M3, w1, w2⟩ := m_goesOn (n := n) (M := sA (sI (sI M 0 0) 0 0) 11 y) (a := t) (many := t) (by omega) hT.2.2 (by omega) (by omega) (fun i hi => by
        obtain ⟨c1, M1, s1, _, k2, LC1, FC1, k3, _⟩ := hall i (by omega)
        exact ⟨M1, k2, k3.1.time.1⟩)
      have e1 : r = (c', s) := Option.some.inj (r1.symm.trans q1)
      have e2 : M3 = M2 := Option.some.inj (w1.symm.trans q2)
      subst e1
      subst e2
      rw [z5, addsub] at w2
      obtain ⟨pa', M4, d1, d2, d3, d4⟩ := h.done (n := n) ((EqM.told M 0).tr (EqM.told _ 0)) y2 z4 z3 (Nat.le_refl D) hn s
      have hm : j_X9_run_31 n (nI t) (sI M 0 (bI (!true))) 1 = some (M4, s) := by
        unfold j_X9_run_31
        rw [show f_X9_may n (sI M 0 (bI (!true))) 1 2 = some (sI (sI M 0 0) 0 0, 1) from rfl, ebnd2, if_neg (show ¬ (1 : Int32) = 0 from by decide), y1, ebnd, w2, ebnd2, d2, ebnd2]
      rw [if_pos (show nI (T + t) ≤ (2000 : Int32) from nI_le (a := T + t) (b := 2000) hlt (by decide)), if_neg (show ¬ (2000 : Int32) < nI (T + t) from nI_nlt (a := 2000) (b := T + t) hlt (by decide)), d1, ebnd, hm]
      have r2' : l_X8_run_46 n sv x ru (nI t) n no pa' 0 0 = some (c', pa', s, 0) := by
        obtain ⟨r', r3, r4⟩ := c_run (n := n) (ru := ru) (sv := sv) (th := x) (no := no) (pa := pa') (a := t) (by omega) (by omega) (fun i hi => by
          obtain ⟨c1, M1, s1, k1, _⟩ := hall i (by omega)
          exact ⟨(c1, s1), k1⟩)
        have e3 : r' = (c', s) := Option.some.inj (r3.symm.trans q1)
        subst e3
        exact r4
      rw [r2', ebnd4, if_pos rfl, ho0]
      exact LKc_ok (p3 := p3) rfl rfl d3 (d4.trans rfl)
    · rw [if_neg (show ¬ nI (T + t) ≤ (2000 : Int32) from nI_ge (a := 2000) (b := T + t) (by omega) (by omega)), if_pos (show (2000 : Int32) < nI (T + t) from nI_lt (a := 2000) (b := T + t) (by omega) (by omega))]
      exact LKc_no (p3 := p3) (k := 2) h (Nat.le_refl D) rfl (by decide) rfl ((EqM.told M 0).tr (EqM.told _ 2)) rfl
/-- ranges from 1 -/
def v1 (v : Int32) (k : Nat) : Bool := decide ((1 : Int32) ≤ v) && decide (v ≤ nI k)
theorem v1_ok {v : Int32} {k : Nat} (hk : k < 2 ^ 30) (h : v1 v k = true) : ∃ j, 1 ≤ j ∧ j ≤ k ∧ v = nI j := by
  unfold v1 at h
  have h1 := Bool.and_eq_true_iff.mp h
  have h2 := of_decide_eq_true h1.1
  have h3 := of_decide_eq_true h1.2
  rw [fa_le, show (1 : Int32).toInt = 1 from by decide] at h2
  rw [fa_le, nI_toInt (by omega)] at h3
  rcases pk_ix v (n := k + 1) (by omega) with q | q | ⟨j, q1, q2⟩
  · rw [fa_lt, show (0 : Int32).toInt = 0 from by decide] at q
    omega
  · rw [fa_le, nI_toInt (by omega)] at q
    omega
  · subst q2
    rw [nI_toInt (by omega)] at h2
    exact ⟨j, by omega, by omega, rfl⟩
theorem in_1 (v : Int32) (k : Nat) : f_X9_isIn n v.toInt64 (1 : Int64) (nI k).toInt64 = some (bI (v1 v k)) := by
  rw [show (1 : Int64) = (1 : Int32).toInt64 from by decide, in32]
  rfl
theorem nd1 {α : Type} (v : Int32) (k : Nat) (A B : α) : (if v < 1 then A else (if v ≤ nI k then B else A)) = if v1 v k then B else A := by
  unfold v1
  by_cases h1 : v < 1
  · rw [if_pos h1, decide_eq_false (Int32.not_le.mpr h1)]
    rfl
  · rw [if_neg h1, decide_eq_true (Int32.not_lt.mp h1)]
    by_cases h2 : v ≤ nI k
    · rw [if_pos h2, decide_eq_true h2]
      rfl
    · rw [if_neg h2, decide_eq_false h2]
      rfl
theorem nd1l {α : Type} (v : Int32) (k : Nat) (A B : α) : (if v < 1 then A else (if nI k < v then A else B)) = if v1 v k then B else A := by
  rw [← nd1]
  by_cases h1 : v < 1
  · rw [if_pos h1, if_pos h1]
  · rw [if_neg h1, if_neg h1]
    by_cases h2 : v ≤ nI k
    · rw [if_pos h2, if_neg (Int32.not_lt.mpr h2)]
    · rw [if_neg h2, if_pos (Int32.not_le.mp h2)]
theorem RR.ask (h : RR P NP D T LC CC FC c m) {p g t : Nat} (hC : CC < 60) (hp : p < NP) (hg : 1 ≤ g) (hg2 : g ≤ P) (ht : t ≤ 99) (a : Int32) : RR P NP D T LC (CC + 1) FC (askC c CC (nI p) (nI g) (nI t) a) (askM m CC (nI p) (nI g) (nI t) a) := by
  obtain ⟨h1, h2, h3, h4⟩ := h
  have mo : ∀ i, i < 7 → askM m CC (nI p) (nI g) (nI t) a i = m i := fun i hi => by
    unfold askM
    rw [upd_n (by omega), upd_n (by omega), upd_n (by omega), upd_n (by omega), upd_n (by omega), upd_n (by omega), upd_n (by omega), upd_n (by omega)]
  refine ⟨h1.ask hC hp hg hg2 ht a, ⟨?_, ?_⟩, ?_, h4⟩
  · rw [mo 2 (by omega)]
    exact h2.1
  · rw [mo 3 (by omega)]
    exact h2.2
  · obtain ⟨B, b1, b2⟩ := h3
    exact ⟨B, b1, by rw [mo 3 (by omega)]; exact b2⟩
theorem lk_ask (h : RXx P NP E Bs F Pt Ap T LC CC FC D x inp ou ru no rd pa M so) (hn : 13000 < n) (v w u : Int32) : LKc D x inp ou ru rd M so (f_L_ask n sv x ru no pa 1 p3 v w u) (f_X9_ask n M v w u) := by
  have hU := h.1
  have hRR := h.2.2.1
  have hR := hRR.1
  have h60 := hR.C60
  have h64 := hR.P64
  have hT := hR.time
  have hNP : NP ≤ 8 := hU.2.2.2.2.1
  have hm : f_X9_ask n M v w u = if vb v NP then j_X9_ask_44 n v w u (sI M 0 0) (bI (v1 w P && v1 u 99)) else some (sI M 0 1, (0 : Int32)) := by
    unfold f_X9_ask
    rw [m_isProcess hU, ebnd, m_is, ebnd2, ifz]
    cases vb v NP
    · rfl
    · rw [if_pos rfl, if_pos rfl, show (sI M 0 (bI (!true))).1 1 = nI P from hU.2.1.1, in_1, ebnd, ifz]
      cases v1 w P
      · rfl
      · rw [if_pos rfl, show (99 : Int64) = (nI 99).toInt64 from by decide, in_1, ebnd, ifz]
        cases v1 u 99 <;> rfl
  have hc : f_X8_ask n sv x ru no pa v w u = if vb v NP then (if v1 w P then (if v1 u 99 then (if (no.1 4) < (60 : Int32) then bnd (f_X3_keep n pa no) (fun (pa_2 : PS) => bnd2 (f_X2_addClaim n no v w u) (fun (no_4 : OS) (r_5 : Int32) => some (no_4, pa_2, r_5, 0))) else some (no, pa, (0 : Int32), 3)) else some (no, pa, (0 : Int32), 2)) else some (no, pa, (0 : Int32), 2)) else some (no, pa, (0 : Int32), 1) := by
    unfold f_X8_ask
    rw [c_needProcess hU, ebnd, hU.1.1, show (99 : Int32) = nI 99 from rfl, nd1, nd1l]
    cases vb v NP <;> rfl
  unfold f_L_ask
  rw [hm, hc]
  have bad : LKc D x inp ou ru rd M so (bnd4 (some (no, pa, (0 : Int32), 2)) (fun (p0no_1 : OS) (p0pa_2 : PS) (r_3 : Int32) (cd_4 : Nat) => if cd_4 = 0 then (gI 1 (0 : Int32) (Let (vp_updL p3 (0 : Int32).toNatClampNeg ((r_3).toInt64)) (fun p4_6 : Nat → Int64 => some (p0no_1, p0pa_2, p4_6, (0 : Int32))))) else (if cd_4 = 1 then (some (p0no_1, p0pa_2, p3, (1 : Int32))) else (if cd_4 = 2 then (some (p0no_1, p0pa_2, p3, (2 : Int32))) else (if cd_4 = 3 then (some (p0no_1, p0pa_2, p3, (3 : Int32))) else (none)))))) (j_X9_ask_44 n v w u (sI M 0 0) 0) := LKc_no (p3 := p3) (k := 2) h (Nat.le_refl D) rfl (by decide) rfl ((EqM.told M 0).tr (EqM.told _ 2)) rfl
  cases hv : vb v NP with
  | false => exact LKc_no (p3 := p3) (k := 1) h (Nat.le_refl D) rfl (by decide) rfl (EqM.told M 1) rfl
  | true =>
    cases hw : v1 w P with
    | false => exact bad
    | true =>
      cases hu : v1 u 99 with
      | false => exact bad
      | true =>
        clear bad
        obtain ⟨p, hp, rfl⟩ := vb_ok (by omega) hv
        obtain ⟨g, hg, hg2, rfl⟩ := v1_ok (by omega) hw
        obtain ⟨t, ht, ht2, rfl⟩ := v1_ok (by decide) hu
        have hj : j_X9_ask_44 n (nI p) (nI g) (nI t) (sI M 0 0) (bI (true && true)) = if 60 ≤ CC then j_X9_ask_71 n (nI p) (nI g) (nI t) (sI (sI M 0 0) 0 0) 0 else j_X9_ask_71 n (nI p) (nI g) (nI t) (sI (sI M 0 0) 0 0) 1 := by
          unfold j_X9_ask_44
          rw [show f_X9_may n (sI M 0 0) (bI (true && true)) 2 = some (sI (sI M 0 0) 0 0, 1) from rfl, ebnd2, if_neg (show ¬ (1 : Int32) = 0 from by decide), gz7, show (sI (sI M 0 0) 0 0).2.1 9 7 = nI CC from hR.mclaims]
          by_cases q : 60 ≤ CC
          · rw [if_pos q, if_pos (show (60 : Int32) ≤ nI CC from nI_le (a := 60) (b := CC) q (by omega))]
          · rw [if_neg q, if_neg (show ¬ (60 : Int32) ≤ nI CC from nI_ge (a := CC) (b := 60) (by omega) (by decide))]
        rw [if_pos rfl, if_pos rfl, if_pos rfl, if_pos rfl, hj, hR.claims]
        by_cases q : 60 ≤ CC
        · rw [if_pos q, if_neg (show ¬ nI CC < (60 : Int32) from nI_nlt (a := CC) (b := 60) q (by omega))]
          exact LKc_no (p3 := p3) (k := 3) h (Nat.le_refl D) rfl (by decide) rfl (((EqM.told M 0).tr (EqM.told _ 0)).tr (EqM.told _ 3)) rfl
        · obtain ⟨y, y1, y2⟩ := m_starts (n := n) (M := sI (sI (sI M 0 0) 0 0) 0 0) (by omega)
          have he : EqM M (sI (sI (sI M 0 0) 0 0) 0 0) := ((EqM.told M 0).tr (EqM.told _ 0)).tr (EqM.told _ 0)
          have hRR3 : RR P NP D T LC (CC + 1) FC (askC no CC (nI p) (nI g) (nI t) (no.1 0)) ((sA (sA (sI (sI (sI M 0 0) 0 0) 0 0) 11 y) 9 (askM (M.2.1 9) CC (nI p) (nI g) (nI t) (M.2.1 9 0))).2.1 9) := by
            rw [sA_get, show M.2.1 9 0 = no.1 0 from hT.1.trans hT.2.1.symm]
            exact hRR.ask (by omega) hp hg hg2 ht2 _
          obtain ⟨pa', M4, d1, d2, d3, d4⟩ := h.done (n := n) he y2 (Fr.row _ _) hRR3 (Nat.le_refl D) hn (nI CC)
          have hm2 : j_X9_ask_71 n (nI p) (nI g) (nI t) (sI (sI M 0 0) 0 0) 1 = some (M4, nI CC) := by
            unfold j_X9_ask_71
            rw [show f_X9_may n (sI (sI M 0 0) 0 0) 1 3 = some (sI (sI (sI M 0 0) 0 0) 0 0, 1) from rfl, ebnd2, if_neg (show ¬ (1 : Int32) = 0 from by decide), y1, ebnd, show (sA (sI (sI (sI M 0 0) 0 0) 0 0) 11 y).2.1 9 = M.2.1 9 from rfl, m_asks (by omega) hR.mclaims, ebnd2, eLet, d2, ebnd2]
          rw [if_neg q, if_pos (show nI CC < (60 : Int32) from nI_lt (a := CC) (b := 60) (by omega) (by decide)), d1, ebnd, c_addClaim (by omega) hR.claims, ebnd2, ebnd4, if_pos rfl, ho0, hm2]
          exact LKc_ok (p3 := p3) rfl rfl d3 (d4.trans rfl)
theorem lk_setOrder (h : RXx P NP E Bs F Pt Ap T LC CC FC D x inp ou ru no rd pa M so) (hn : 13000 < n) (v : Int32) : LKc D x inp ou ru rd M so (f_L_setOrder n sv x no pa 1 p3 v) (f_X9_setOrder n M v) := by
  have hU := h.1
  have hRR := h.2.2.1
  have hR := hRR.1
  unfold f_L_setOrder f_X8_setOrder f_X9_setOrder f_X9_isOrder
  rw [show (2 : Int32) = nI 2 from rfl, nd3e v 2 (by decide), show (2 : Int64) = (nI 2).toInt64 from by decide, in_to v 2 (by decide), ebnd, egZ, ebnd, m_is, ebnd2, ifz]
  cases hv : vb v (2 + 1) with
  | false => exact LKc_no (p3 := p3) (k := 1) h (Nat.le_refl D) rfl (by decide) rfl (EqM.told M 1) rfl
  | true =>
    obtain ⟨o, ho, rfl⟩ := vb_ok (by decide) hv
    obtain ⟨y, y1, y2⟩ := m_starts (n := n) (M := sI M 0 (bI (!true))) (by omega)
    have hRR3 : RR P NP D T LC CC FC (sI no 1 (nI o)) ((sA (sA (sI M 0 (bI (!true))) 11 y) 9 (upd (M.2.1 9) 1 (nI o))).2.1 9) := by
      rw [sA_get]
      exact RR.order hRR (by omega)
    obtain ⟨pa', M4, d1, d2, d3, d4⟩ := h.done (n := n) (EqM.told M _) y2 (Fr.row _ _) hRR3 (Nat.le_refl D) hn (M.2.1 9 1)
    rw [if_pos rfl, if_pos rfl, d1, ebnd, eLet, eLet, ebnd4, if_pos rfl, ho0, y1, ebnd, gz1, show (sA (sI M 0 (bI (!true))) 11 y).2.1 9 = M.2.1 9 from rfl, hz1, d2, ebnd2, hR.1.1.2.1]
    exact LKc_ok (p3 := p3) rfl rfl d3 (d4.trans rfl)
end CHG
