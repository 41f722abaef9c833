/-! pages taken back; a claim met, put off -/
def FrS (M M' : OS) : Prop := M'.1 = M.1 ∧ (∀ j, j ≠ 9 → M'.2.1 j = M.2.1 j) ∧ M'.2.2 = M.2.2
theorem FrS.rf (M : OS) : FrS M M := ⟨rfl, fun _ _ => rfl, rfl⟩
theorem FrS.tr {M M1 M2 : OS} (h : FrS M M1) (h2 : FrS M1 M2) : FrS M M2 := ⟨h2.1.trans h.1, fun j a => (h2.2.1 j a).trans (h.2.1 j a), h2.2.2.trans h.2.2⟩
theorem FrS.row (M : OS) (u : Nat → Int32) : FrS M (sA M 9 u) := ⟨rfl, fun _ h => if_neg h, rfl⟩
theorem FrS.fr {M M' : OS} (h : FrS M M') : Fr M M' := ⟨fun j _ _ => by rw [h.1], fun j h1 _ => h.2.1 j h1, h.2.2⟩
/-- what stays of the class: the hearings, the line, the latest fines of the loans -/
def FrC (LC : Nat) (c c' : OS) : Prop := c'.1 6 = c.1 6 ∧ c'.1 7 = c.1 7 ∧ c'.2.1 15 = c.2.1 15 ∧ ∀ l, l < LC → c'.2.1 12 (8 * l + 5) = c.2.1 12 (8 * l + 5)
theorem FrC.rf (LC : Nat) (c : OS) : FrC LC c c := ⟨rfl, rfl, rfl, fun _ _ => rfl⟩
theorem FrC.tr {LC LC2 : Nat} {c c1 c2 : OS} (h : FrC LC c c1) (h2 : FrC LC2 c1 c2) (hl : LC ≤ LC2) : FrC LC c c2 := ⟨h2.1.trans h.1, h2.2.1.trans h.2.1, h2.2.2.1.trans h.2.2.1, fun l q => (h2.2.2.2 l (by omega)).trans (h.2.2.2 l q)⟩
section CLAIMS
variable {P NP D K T LC CC FC E Bs F Pt Ap n : Nat} {c ru M : OS} {m : Nat → Int32}
theorem eb_some (h : 0 < bp m P LC) : ∃ b, eb m P LC = some b := by
  have key : ∀ l, (∃ a, a < l ∧ bk m P a = true) → ∃ b, eb m P l = some b := by
    intro l
    induction l with
    | zero =>
      rintro ⟨a, h1, _⟩
      omega
    | succ l ih =>
      rintro ⟨a, h1, h2⟩
      unfold eb
      by_cases hb : bk m P l = true
      · rw [if_pos hb]
        cases eb m P l with
        | none => exact ⟨l, rfl⟩
        | some b =>
          show ∃ b1, (if m (58 + 6 * l + 1) < m (58 + 6 * b + 1) then some l else some b) = some b1
          split
          · exact ⟨_, rfl⟩
          · exact ⟨_, rfl⟩
      · rw [if_neg hb]
        exact ih ⟨a, by
          rcases Nat.lt_or_ge a l with q | q
          · exact q
          · have : a = l := by omega
            subst this
            exact absurd h2 hb, h2⟩
  refine key LC ?_
  refine Classical.byContradiction fun hx => ?_
  have : bp m P LC = 0 := by
    have h1 : bp m P LC = fb_sm (fun _ => 0) LC := fb_sm_cong fun l hl => by
      rw [if_neg (fun z => hx ⟨l, hl, z⟩)]
    rw [h1, fb_sm_const, Nat.mul_zero]
  omega
/-- the broken loans behind t pages taken from b -/
theorem bp_less {m' : Nat → Int32} {b t : Nat} (hb : b < LC) (hbk : bk m P b = true) (ht : t ≤ pc m P (nI b)) (h0 : m' 0 = m 0) (hd : ∀ l, l < LC → m' (58 + 6 * l + 1) = m (58 + 6 * l + 1)) (hpb : pc m' P (nI b) = pc m P (nI b) - t) (hpo : ∀ l, l < LC → l ≠ b → pc m' P (nI l) = pc m P (nI l)) : bp m' P LC + t = bp m P LC ∧ nbk m' P LC + 1 = nbk m P LC + (if t < pc m P (nI b) then 1 else 0) := by
  have hdue : m (58 + 6 * b + 1) < m 0 := by
    unfold bk at hbk
    exact of_decide_eq_true (Bool.and_eq_true_iff.mp hbk).1
  have ho : ∀ l, l < LC → l ≠ b → bk m' P l = bk m P l := fun l h1 h2 => by
    unfold bk
    rw [h0, hd l h1, hpo l h1 h2]
  have hB : bk m' P b = decide (t < pc m P (nI b)) := by
    unfold bk
    rw [h0, hd b hb, hpb, decide_eq_true hdue, Bool.true_and]
    congr 1
    exact propext ⟨fun z => by omega, fun z => by omega⟩
  constructor
  · have h1 := fb_sm_upd (fun l => if bk m P l then pc m P (nI l) else 0) (pc m P (nI b) - t) hb
    have e : bp m' P LC = fb_sm (fun k => if k = b then pc m P (nI b) - t else (if bk m P k then pc m P (nI k) else 0)) LC := fb_sm_cong fun l hl => by
      by_cases e : l = b
      · subst e
        rw [if_pos rfl, hB, hpb]
        by_cases q : t < pc m P (nI l)
        · rw [decide_eq_true q, if_pos rfl]
        · rw [decide_eq_false q, if_neg (by decide)]
          omega
      · rw [if_neg e, ho l hl e, hpo l hl e]
    rw [← e] at h1
    simp only [if_pos hbk] at h1
    have e2 : fb_sm (fun l => if bk m P l = true then pc m P (nI l) else 0) LC = bp m P LC := rfl
    rw [e2] at h1
    omega
  · have h1 := fb_ct_upd (fun l => bk m P l) (decide (t < pc m P (nI b))) hb
    have e : nbk m' P LC = fb_ct (fun k => if k = b then decide (t < pc m P (nI b)) else bk m P k) LC := fb_ct_cong fun l hl => by
      by_cases e : l = b
      · subst e
        rw [if_pos rfl, hB]
      · rw [if_neg e, ho l hl e]
    rw [← e] at h1
    simp only [if_pos hbk, decide_eq_true_eq] at h1
    exact h1
theorem takeBack : ∀ (r : Nat) (c M : OS) (rd N N2 : Nat), R0 P NP D K T LC CC FC c (M.2.1 9) → M.1 1 = nI P → 100 < n → r ≤ 64 → r ≤ bp (M.2.1 9) P LC → (0 < r → nbk (M.2.1 9) P LC + rd ≤ LC) → rd ≤ 80 → r < N → r < N2 → ∃ c' M', l_X2_takeBack_4 n N c (nI r) (nI rd) = some c' ∧ l_X9_takesBack_2 n N2 M (nI r) = some M' ∧ R0 P NP D K T LC CC FC c' (M'.2.1 9) ∧ FrS M M' ∧ FrC LC c c' ∧ (∀ j, (j < 58 ∧ j ≠ 5) ∨ 602 ≤ j → M'.2.1 9 j = M.2.1 9 j) ∧ (∀ l, l < LC → M'.2.1 9 (58 + 6 * l) = M.2.1 9 (58 + 6 * l)) ∧ pc (M'.2.1 9) P (-1) = pc (M.2.1 9) P (-1) + r ∧ Rch P NP CC T LC FC (M.2.1 9) T LC FC (M'.2.1 9) := by
  intro r
  induction r using Nat.strongRecOn with
  | ind r ih =>
    intro c M rd N N2 hR hP hn h64r hbp hnb hrd hN hN2
    obtain ⟨N', rfl⟩ : ∃ N', N = N' + 1 := ⟨N - 1, by omega⟩
    obtain ⟨N2', rfl⟩ : ∃ N', N2 = N' + 1 := ⟨N2 - 1, by omega⟩
    have h80 := hR.L80
    have h64 := hR.P64
    rcases Nat.eq_zero_or_pos r with h0 | hpos
    · subst h0
      refine ⟨c, M, ?_, ?_, hR, FrS.rf M, FrC.rf LC c, fun _ _ => rfl, fun _ _ => rfl, rfl, Rch.rf⟩
      · show s_X2_takeBack_4 n _ c (nI 0) (nI rd) = _
        unfold s_X2_takeBack_4
        by_cases q : c.1 3 ≤ nI rd
        · rw [if_pos q]
        · rw [if_neg q, if_pos (nI_zle rfl)]
      · show s_X9_takesBack_2 n _ M (nI 0) = _
        unfold s_X9_takesBack_2
        rw [if_pos (nI_zle rfl)]
    · obtain ⟨b, hb⟩ := eb_some (m := M.2.1 9) (P := P) (LC := LC) (by omega)
      obtain ⟨hbl, hbk⟩ := eb_lt _ _ _ _ hb
      have b80 : b < 80 := by omega
      have hg0 : 0 < pc (M.2.1 9) P (nI b) := by
        unfold bk at hbk
        exact of_decide_eq_true (Bool.and_eq_true_iff.mp hbk).2
      have hgP := pc_le (M.2.1 9) P (nI b)
      generalize hg : pc (M.2.1 9) P (nI b) = g at hg0 hgP
      have hnb1 : 1 ≤ nbk (M.2.1 9) P LC := fb_ct_pos.mpr ⟨b, hbl, hbk⟩
      have hnb2 := hnb hpos
      obtain ⟨t, ht⟩ : ∃ t, t = min r g := ⟨_, rfl⟩
      have htg : t ≤ g := by omega
      have htr : t ≤ r := by omega
      have ht1 : 1 ≤ t := by omega
      have ec : (if nI g < nI r then nI g else nI r) = nI t := by
        rw [minI (by omega) (by omega), ht, Nat.min_comm]
      have em : f_X9_lesser n (nI r) (nI g) = some (nI t) := by
        rw [m_lesser (by omega) (by omega), ht]
      have q1 := hR.1.2.2.2.2.1 b hbl
      have hrel := hR.release hbl (many := t) (by omega)
      have hrt := hrel.taken hbl (relM (M.2.1 9) P b t (58 + 6 * b + 4) + nI t) (relM (M.2.1 9) P b t 5 + nI t)
      have qr := hrel.1.2.2.2.2.1 b hbl
      have hsc := hrel.1.1
      generalize hm1 : relM (M.2.1 9) P b t = m1 at hrel hrt qr hsc
      have m1o : ∀ i, (i < 538 ∨ 602 ≤ i) → m1 i = M.2.1 9 i := fun i hi => by
        rw [← hm1]
        exact relM_o hi
      have hp1 : pc m1 P (nI b) = g - t := by
        rw [← hm1, pc_rel_l h64 b80 (by omega), hg]
      have hp2 : pc m1 P (-1) = pc (M.2.1 9) P (-1) + t := by
        rw [← hm1, pc_rel_f h64 b80 (by omega)]
      have hp3 : ∀ l, l < LC → l ≠ b → pc m1 P (nI l) = pc (M.2.1 9) P (nI l) := fun l h1 h2 => by
        rw [← hm1, pc_rel_o h64 b80 (by omega) (by omega) h2]
      obtain ⟨m2, hm2⟩ : ∃ m2, m2 = upd (upd m1 (58 + 6 * b + 4) (m1 (58 + 6 * b + 4) + nI t)) 5 (m1 5 + nI t) := ⟨_, rfl⟩
      have m2o : ∀ i, i ≠ 58 + 6 * b + 4 → i ≠ 5 → m2 i = m1 i := fun i h1 h2 => by rw [hm2, upd_n h2, upd_n h1]
      have pc2 : ∀ v, pc m2 P v = pc m1 P v := fun v => pc_sm (fun i h1 h2 => m2o i (by omega) (by omega)) h64 v
      rw [← hm2] at hrt
      have hbp2 := bp_less (m := M.2.1 9) (m' := m2) (P := P) hbl hbk (t := t) (by omega) (by rw [m2o 0 (by omega) (by omega), m1o 0 (by omega)]) (fun l hl => by rw [m2o _ (by omega) (by omega), m1o _ (by omega)]) (by rw [pc2, hp1, hg]) (fun l h1 h2 => by rw [pc2, hp3 l h1 h2])
      rw [hg] at hbp2
      obtain ⟨c2, hc2⟩ : ∃ c2, c2 = sI (sA (relC c b t) 12 (upd ((relC c b t).2.1 12) (8 * b + 6) (m1 (58 + 6 * b + 4) + nI t))) 8 (m1 5 + nI t) := ⟨_, rfl⟩
      rw [← hc2] at hrt
      obtain ⟨c', M', z1, z2, z3, z4, z5, z6, z7, z8, z9⟩ := ih (r - t) (by omega) c2 (sA M 9 m2) (rd + 1) N' N2' (by rw [sA_get]; exact hrt) hP hn (by omega) (by rw [sA_get]; omega) (fun hq => by
        rw [sA_get]
        have hlt : ¬ t < g := by omega
        rw [if_neg hlt] at hbp2
        omega) (by omega) (by omega) (by omega)
      rw [sA_get] at z6 z7 z8 z9
      have hst : Rch P NP CC T LC FC (M.2.1 9) T LC FC m2 := by
        have h9 := Rch.take (NP := NP) (CC := CC) (T := T) (FC := FC) (m := M.2.1 9) (P := P) (t := t) hbl h80 h64 (by rw [hg]; exact htg)
        unfold takM at h9
        rw [hm1, ← hm2] at h9
        exact h9
      refine ⟨c', M', ?_, ?_, z3, (FrS.row M m2).tr z4, ?_, ?_, ?_, ?_, hst.tr z9⟩
      · rw [← z1]
        show s_X2_takeBack_4 n (l_X2_takeBack_4 n N') c (nI r) (nI rd) = _
        unfold s_X2_takeBack_4
        rw [hR.loans, if_neg (nI_ge (show rd < LC by omega) (by omega)), if_neg (nI_nle hpos (by omega)), c_earliest hR h64 hn, hb, ebnd]
        rw [show toI (some b) = nI b from rfl, gL1 b80, ebnd, q1.2.1, hg, ec, eLet, c_release b80 (by omega) hn, ebnd, aL6 b80, ebnd, eLet, eLet, pk_sub htr, eLet, eLet, nI_1, qr.2.2.2.2.2.1]
        rw [show (sA (relC c b t) 12 (upd ((relC c b t).2.1 12) (8 * b + 6) (m1 (58 + 6 * b + 4) + nI t))).1 8 = m1 5 from hsc.2.2.2.2.2, ← hc2]
      · rw [← z2]
        show s_X9_takesBack_2 n (l_X9_takesBack_2 n N2') M (nI r) = _
        unfold s_X9_takesBack_2
        rw [if_neg (nI_nle hpos (by omega)), m_earliest hP h64 hn hR.mloans h80, hb, ebnd]
        rw [show toI (some b) = nI b from rfl]
        have ix : (58 : Int32) + (6 : Int32) * nI b + (4 : Int32) = nI (58 + 6 * b + 4) := ix2 58 6 b 4
        have hfre : f_X9_frees n M (nI b) (nI t) = some (sA M 9 m1) := by
          rw [m_frees hP h64 (by omega) hn, ← hm1]
          rfl
        rw [m_pagesOf hP h64 hn, hg, ebnd, em, ebnd, hfre, ebnd, mL4 b80, ebnd, ix, wz (by omega), sA_get, sA_sA, gz5, hz5, sA_get, sA_sA, eLet, pk_sub htr, upd_n (show 5 ≠ 58 + 6 * b + 4 by omega), ← hm2]
      · refine FrC.tr (LC2 := LC) ?_ z5 (Nat.le_refl _)
        rw [hc2]
        refine ⟨rfl, rfl, rfl, fun l hl => ?_⟩
        show upd (upd (c.2.1 12) (8 * b + 1) (c.2.1 12 (8 * b + 1) + -nI t)) (8 * b + 6) (m1 (58 + 6 * b + 4) + nI t) (8 * l + 5) = _
        rw [upd_n (by omega), upd_n (by omega)]
      · intro j hj
        rw [z6 j hj, m2o j (by omega) (by omega), m1o j (by omega)]
      · intro l hl
        rw [z7 l hl, m2o _ (by omega) (by omega), m1o _ (by omega)]
      · rw [z8, pc2, hp2]
        omega
/-- a claim is put off, on both sides -/
theorem putOff (hR : R0 P NP D K T LC CC FC c (M.2.1 9)) (hU : Ru P NP E Bs F Pt Ap ru M) {q : Nat} (hq : q < CC) (hw : wt (M.2.1 9) q = true) : ∃ c' M', f_X2_putOff n c (nI q) (ru.1 5) = some c' ∧ f_X9_putsOff n M (nI q) = some M' ∧ R0 P NP D K T LC CC FC c' (M'.2.1 9) ∧ FrS M M' ∧ FrC LC c c' ∧ (∀ j, j ≠ 602 + 7 * q + 3 → j ≠ 602 + 7 * q + 4 → j ≠ 9 → M'.2.1 9 j = M.2.1 9 j) ∧ Rch P NP CC T LC FC (M.2.1 9) T LC FC (M'.2.1 9) := by
  have h60 := hR.C60
  have q60 : q < 60 := by omega
  have i4 : (602 : Int32) + (7 : Int32) * nI q + (4 : Int32) = nI (602 + 7 * q + 4) := ix2 602 7 q 4
  have i3 : (602 : Int32) + (7 : Int32) * nI q + (3 : Int32) = nI (602 + 7 * q + 3) := ix2 602 7 q 3
  have e4 : c.2.1 13 (7 * q + 4) = M.2.1 9 (602 + 7 * q + 4) := hR.1.2.2.2.2.2.1 q hq 4 (by omega)
  have s1 := hR.putC hq (j := 4) (Or.inl rfl) (M.2.1 9 (602 + 7 * q + 4) + 1)
  generalize hx : M.2.1 9 (602 + 7 * q + 4) + 1 = x at s1
  have hw1 : wt (upd (M.2.1 9) (602 + 7 * q + 4) x) q = true := by
    unfold wt
    rw [upd_n (by omega)]
    exact hw
  have s2 := s1.refuse hq hw1 2 (Or.inl rfl)
  rw [if_pos rfl, sA_get, sA_sA] at s2
  have hp5 : ru.1 5 = nI Pt := hU.1.2.2.2.2.2.1
  have hp6 : M.1 6 = nI Pt := hU.2.1.2.2.2.2.2.1
  unfold f_X2_putOff f_X9_putsOff
  rw [aC4 q60, ebnd, eLet, gC4 q60, sA_get, upd_s, ebnd, e4, hx, hp5, sC3 q60, ebnd, eLet, sA_sA]
  rw [eLet, i4, i3, rz (show 602 + 7 * q + 4 < 1846 by omega), hx, wz (show 602 + 7 * q + 4 < 1846 by omega), rz (show 602 + 7 * q + 4 < 1846 by omega), sA_get, upd_s, sA_1, hp6, wz (show 602 + 7 * q + 3 < 1846 by omega), sA_sA, gz9, sA_get, hz9, sA_sA]
  by_cases hc : x < nI Pt
  · rw [if_pos hc, if_neg (i_nle.mpr hc)]
    refine ⟨_, _, rfl, rfl, ?_, FrS.row M _, ⟨rfl, rfl, rfl, fun _ _ => rfl⟩, ?_, by rw [sA_get]; exact Rch.put hq h60 hw (fun j h1 h2 h3 => upd_n h2) (Or.inl (by rw [upd_n (by omega)]; exact wt_iff.mp hw))⟩
    · rw [sA_get]
      exact s1
    · intro j h1 h2 h3
      rw [sA_get, upd_n h2]
  · rw [if_neg hc, if_pos (i_nlt.mp hc)]
    refine ⟨_, _, rfl, rfl, ?_, ?_, ⟨rfl, rfl, rfl, fun _ _ => rfl⟩, ?_, by rw [sA_get]; exact Rch.put hq h60 hw (fun j h1 h2 h3 => by rw [upd_n h3, upd_n h1, upd_n h2]) (Or.inr (by rw [upd_n (by omega), upd_s]))⟩
    · rw [sA_get, upd_n (show 9 ≠ 602 + 7 * q + 3 by omega)]
      exact s2
    · exact FrS.row M _
    · intro j h1 h2 h3
      rw [sA_get, upd_n h3, upd_n h1, upd_n h2]
end CLAIMS
