/-! a claim is met; the claims of a hearing -/
section HEAR
variable {P NP D K T LC CC FC E Bs F Pt Ap n : Nat} {c ru M : OS} {m : Nat → Int32}
theorem pk_le0 {a b : Nat} (ha : a < 2 ^ 30) (hb : b < 2 ^ 30) : (nI a - nI b ≤ 0) ↔ a ≤ b := by
  constructor
  · intro h
    rcases Nat.lt_or_ge b a with q | q
    · rw [pk_sub (by omega)] at h
      exact absurd h (nI_nle (by omega) (by omega))
    · exact q
  · intro h
    rcases Nat.lt_or_ge a b with q | q
    · exact Int32.le_of_lt (pk_sneg hb q)
    · rw [pk_sub q]
      exact nI_zle (by omega)
/-- a claim that waits is met -/
theorem meet (hR : R0 P NP D 20 T LC CC FC c (M.2.1 9)) (hNP : NP ≤ 8) (hn : 100 < n) (hD : 2100 ≤ D) {q p g : Nat} (hq : q < CC) (hw : wt (M.2.1 9) q = true) (hp : p < NP) (hpo : M.2.1 9 (602 + 7 * q) = nI p) (hg : M.2.1 9 (602 + 7 * q + 1) = nI g) (hg1 : g ≤ 64) (hfr : g ≤ pc (M.2.1 9) P (-1)) : ∃ c' M', j_X2_meets_67 n (nI q) c (nI p) (nI g) = some (c', 1) ∧ f_X9_meets n M (nI q) = some M' ∧ R0 P NP D 20 T (LC + 1) CC FC c' (M'.2.1 9) ∧ FrS M M' ∧ FrC LC c c' ∧ c'.2.1 12 (8 * LC + 5) = 0 ∧ M'.2.1 9 8 = M.2.1 9 8 + 1 ∧ (∀ j, j < 4 → M'.2.1 9 j = M.2.1 9 j) ∧ (∀ l, l < LC → M'.2.1 9 (58 + 6 * l) = M.2.1 9 (58 + 6 * l)) ∧ (∀ a, a < CC → a ≠ q → M'.2.1 9 (602 + 7 * a + 3) = M.2.1 9 (602 + 7 * a + 3)) ∧ Rch P NP CC T LC FC (M.2.1 9) T (LC + 1) FC (M'.2.1 9) := by
  have h60 := hR.C60
  have h64 := hR.P64
  have q60 : q < 60 := by omega
  have p8 : p < 8 := by omega
  have hT := hR.time
  obtain ⟨_, _, ⟨t, ht, htm⟩⟩ := hR.2.2.2.2.2.2.1 q hq
  have s1 := R0.met (K := 19) hR hq hw p8 hpo (nI LC)
  have mo : ∀ i, i ≠ 602 + 7 * q + 3 → i ≠ 602 + 7 * q + 5 → i ≠ 8 → i ≠ 10 + 6 * p + 3 → metM (M.2.1 9) q p (nI LC) i = M.2.1 9 i := fun i h1 h2 h3 h4 => metM_o h1 h2 h3 h4
  have hm8 : metM (M.2.1 9) q p (nI LC) 8 = M.2.1 9 8 + 1 := by
    unfold metM
    rw [upd_n (by omega), upd_s]
  have hLC : LC < 80 := by
    have h1 := s1.2.2.2.2.2.2.2.1.2.2
    have h2 : stc (metM (M.2.1 9) q p (nI LC)) 1 CC ≤ CC := fb_ct_le _ _
    omega
  have hpc : ∀ v, pc (metM (M.2.1 9) q p (nI LC)) P v = pc (M.2.1 9) P v := fun v => pc_sm (fun i h1 h2 => mo i (by omega) (by omega) (by omega) (by omega)) h64 v
  obtain ⟨m1, hm1⟩ : ∃ m1, m1 = metM (M.2.1 9) q p (nI LC) := ⟨_, rfl⟩
  rw [← hm1] at s1 mo hm8 hpc
  have m10 : m1 0 = nI T := by rw [mo 0 (by omega) (by omega) (by omega) (by omega), hT.1]
  have s2 := s1.lend (p := p) (g := g) (d := T + t) (cl := nI q) hLC hp (by omega) (by rw [hpc]; exact hfr)
  have kc := c_lend (n := n) (c := c) hLC hg1 hn hR.loans (nI p) (nI (T + t)) (nI q)
  have km := m_lends (n := n) (m := m1) (P := P) (g := g) hLC h64 (by rw [hpc]; exact hfr) hn (s1.mloans) (nI p) (nI (T + t)) (nI q)
  have e2 : c.2.1 13 (7 * q + 2) = M.2.1 9 (602 + 7 * q + 2) := hR.1.2.2.2.2.2.1 q hq 2 (by omega)
  have i0 : (602 : Int32) + (7 : Int32) * nI q = nI (602 + 7 * q) := ix1 602 7 q
  have lo : ∀ i, ((i < 538 ∧ (i < 58 + 6 * LC ∨ 58 + 6 * LC + 6 ≤ i)) ∨ 602 ≤ i) → i ≠ 6 → lendM m1 P LC (nI p) g (nI (T + t)) (m1 0) (nI q) i = m1 i := fun i h1 h2 => lendM_o hLC h1 h2
  refine ⟨sA (sA (lendC c LC (nI p) g (nI (T + t)) (c.1 0) (nI q)) 13 (upd (c.2.1 13) (7 * q + 3) 1)) 13 (upd (upd (c.2.1 13) (7 * q + 3) 1) (7 * q + 5) (nI LC)), sA M 9 (lendM m1 P LC (nI p) g (nI (T + t)) (m1 0) (nI q)), ?_, ?_, ?_, FrS.row M _, ?_, ?_, ?_, ?_, ?_, ?_, by rw [sA_get, m10, hm1]; exact Rch.meet hq h60 hLC h64 hw hp p8 hpo hg1 hfr⟩
  rotate_left
  rotate_left
  · rw [sA_get]
    refine s2.ext (fun j _ _ _ => rfl) (fun j j1 j2 => ?_) rfl (fun j _ _ _ => rfl)
    by_cases e : j = 13
    · subst e
      rfl
    · rw [sA_o e, sA_o e]
      unfold lendC
      simp only [sI_2, sA_at, if_neg e]
      rfl
  · refine ⟨rfl, rfl, rfl, fun l hl => ?_⟩
    show upd (upd (upd (upd (upd (upd (upd (upd (c.2.1 12) (8 * LC) (nI p)) (8 * LC + 1) (nI g)) (8 * LC + 2) (nI (T + t))) (8 * LC + 3) (c.1 0)) (8 * LC + 4) (nI q)) (8 * LC + 5) 0) (8 * LC + 6) 0) (8 * LC + 7) (nI g) (8 * l + 5) = _
    rw [upd_n (by omega), upd_n (by omega), upd_n (by omega), upd_n (by omega), upd_n (by omega), upd_n (by omega), upd_n (by omega), upd_n (by omega)]
  · show upd (upd (upd (upd (upd (upd (upd (upd (c.2.1 12) (8 * LC) (nI p)) (8 * LC + 1) (nI g)) (8 * LC + 2) (nI (T + t))) (8 * LC + 3) (c.1 0)) (8 * LC + 4) (nI q)) (8 * LC + 5) 0) (8 * LC + 6) 0) (8 * LC + 7) (nI g) (8 * LC + 5) = 0
    rw [upd_n (by omega), upd_n (by omega), upd_s]
  · rw [sA_get, lo 8 (by omega) (by omega), hm8]
  · intro j hj
    rw [sA_get, lo j (by omega) (by omega), mo j (by omega) (by omega) (by omega) (by omega)]
  · intro l hl
    rw [sA_get, lo _ (by omega) (by omega), mo _ (by omega) (by omega) (by omega) (by omega)]
  · intro a ha hne
    rw [sA_get, lo _ (by omega) (by omega), mo _ (by omega) (by omega) (by omega) (by omega)]
  · unfold j_X2_meets_67
    rw [gC2 q60, ebnd, e2, htm, show c.1 0 + nI t = nI (T + t) from by rw [hT.2.1, nI_add], kc, ebnd2, sC3 q60, ebnd, eLet, sC5 q60, ebnd, eLet, sA_get]
    rfl
  · unfold f_X9_meets
    have u0 : ∀ x y : Int32, upd (upd (M.2.1 9) (602 + 7 * q + 3) x) (602 + 7 * q + 5) y 8 = M.2.1 9 8 := fun x y => by rw [upd_n (by omega), upd_n (by omega)]
    have u6 : ∀ x : Int32, upd (M.2.1 9) (602 + 7 * q + 3) x 6 = nI LC := fun x => by rw [upd_n (by omega), hR.mloans]
    have up : ∀ x y z : Int32, upd (upd (upd (M.2.1 9) (602 + 7 * q + 3) x) (602 + 7 * q + 5) y) 8 z (10 + 6 * p + 3) = M.2.1 9 (10 + 6 * p + 3) := fun x y z => by rw [upd_n (by omega), upd_n (by omega), upd_n (by omega)]
    have hm1' : upd (upd (upd (upd (M.2.1 9) (602 + 7 * q + 3) 1) (602 + 7 * q + 5) (nI LC)) 8 (M.2.1 9 8 + 1)) (10 + 6 * p + 3) (M.2.1 9 (10 + 6 * p + 3) + 1) = m1 := hm1.symm
    rw [eLet, i0, Int32.add_zero, rz (show 602 + 7 * q < 1846 by omega), hpo, nI_p3, wz (show 602 + 7 * q + 3 < 1846 by omega), gz6, sA_get, u6, nI_p5, wz (show 602 + 7 * q + 5 < 1846 by omega), sA_sA, gz8, sA_get, u0, hz8, sA_sA, mP3 p8, ebnd, sA_get, up, mS3 p8, ebnd, sA_sA, sA_get, sA_get, hm1', nI_1, rz (show 602 + 7 * q + 1 < 1846 by omega), gz0, nI_p2, rz (show 602 + 7 * q + 2 < 1846 by omega)]
    rw [mo (602 + 7 * q + 1) (by omega) (by omega) (by omega) (by omega), mo (602 + 7 * q + 2) (by omega) (by omega) (by omega) (by omega), hg, htm, show m1 0 + nI t = nI (T + t) from by rw [m10, nI_add], km, ebnd, eLet, sA_sA]
/-- one claim of a hearing -/
theorem lookAt (hR : R0 P NP D 20 T LC CC FC c (M.2.1 9)) (hU : Ru P NP E Bs F Pt Ap ru M) (hn : 100 < n) (hD : 2100 ≤ D) {q : Nat} (hq : q < CC) (hw : wt (M.2.1 9) q = true) : ∃ c' M' b LC', (∃ c1, f_X2_meets n c (nI q) = some (c1, bI b) ∧ (if b then c1 = c' else f_X2_putOff n c1 (nI q) (ru.1 5) = some c')) ∧ f_X9_looksAt n M (nI q) = some M' ∧ LC ≤ LC' ∧ R0 P NP D 20 T LC' CC FC c' (M'.2.1 9) ∧ FrS M M' ∧ FrC LC c c' ∧ (∀ l, LC ≤ l → l < LC' → c'.2.1 12 (8 * l + 5) = 0) ∧ M'.2.1 9 8 = M.2.1 9 8 + bI b ∧ (∀ j, j < 4 → M'.2.1 9 j = M.2.1 9 j) ∧ (∀ l, l < LC → M'.2.1 9 (58 + 6 * l) = M.2.1 9 (58 + 6 * l)) ∧ (∀ a, a < CC → a ≠ q → M'.2.1 9 (602 + 7 * a + 3) = M.2.1 9 (602 + 7 * a + 3)) ∧ Rch P NP CC T LC FC (M.2.1 9) T LC' FC (M'.2.1 9) := by
  have h60 := hR.C60
  have h64 := hR.P64
  have h80 := hR.L80
  have hNP : NP ≤ 8 := hU.2.2.2.2.1
  have hP := hU.2.1.1
  have q60 : q < 60 := by omega
  obtain ⟨⟨p, hp, hpo⟩, ⟨g, hg1, hg2, hg⟩, _⟩ := hR.2.2.2.2.2.2.1 q hq
  have p8 : p < 8 := by omega
  obtain ⟨_, ⟨b, hb2, hb⟩⟩ := hR.2.2.2.1 p p8
  have e0 : c.2.1 13 (7 * q) = M.2.1 9 (602 + 7 * q) := hR.1.2.2.2.2.2.1 q hq 0 (by omega)
  have e1 : c.2.1 13 (7 * q + 1) = M.2.1 9 (602 + 7 * q + 1) := hR.1.2.2.2.2.2.1 q hq 1 (by omega)
  have u1 := (hR.1.2.2.2.1 p p8).2.1
  have hfc : c.1 2 = nI (pc (M.2.1 9) P (-1)) := hR.1.2.2.1
  have hfP := pc_le (M.2.1 9) P (-1)
  obtain ⟨c2, M2, z1, z2, z3, z4, z5, z6, z7⟩ := putOff (n := n) hR hU hq hw
  have hc0 : f_X2_meets n c (nI q) = if nI b ≤ 0 then (if nI g ≤ nI (pc (M.2.1 9) P (-1)) then j_X2_meets_67 n (nI q) c (nI p) (nI g) else bnd (f_X2_brokenPages n c) (fun (r_11 : Int32) => if (nI g - nI (pc (M.2.1 9) P (-1))) ≤ r_11 then bnd (f_X2_takeBack n c (nI g - nI (pc (M.2.1 9) P (-1)))) (fun (th_12 : OS) => j_X2_meets_67 n (nI q) th_12 (nI p) (nI g)) else some (c, (0 : Int32)))) else some (c, (0 : Int32)) := by
    unfold f_X2_meets
    rw [gC0 q60, ebnd, e0, hpo, gC1 q60, ebnd, e1, hg, gP1 p8, ebnd, u1, hb, hfc]
  have hm0 : f_X9_looksAt n M (nI q) = if nI b ≤ 0 then (if nI g - nI (pc (M.2.1 9) P (-1)) ≤ 0 then j_X9_looksAt_50 n (nI q) M (nI g - nI (pc (M.2.1 9) P (-1))) else bnd (f_X9_brokenPages n M) (fun (r_9 : Int32) => if nI g - nI (pc (M.2.1 9) P (-1)) ≤ r_9 then j_X9_looksAt_50 n (nI q) M (nI g - nI (pc (M.2.1 9) P (-1))) else some M2)) else some M2 := by
    unfold f_X9_looksAt
    rw [mC0 q60, ebnd, hpo, mP1 p8, ebnd, hb, mC1 q60, ebnd, hg, m_free hP h64 hn, ebnd, eLet, z2, ebnd]
  have off : f_X2_meets n c (nI q) = some (c, bI false) → f_X9_looksAt n M (nI q) = some M2 → ∃ c' M' b LC', (∃ c1, f_X2_meets n c (nI q) = some (c1, bI b) ∧ (if b then c1 = c' else f_X2_putOff n c1 (nI q) (ru.1 5) = some c')) ∧ f_X9_looksAt n M (nI q) = some M' ∧ LC ≤ LC' ∧ R0 P NP D 20 T LC' CC FC c' (M'.2.1 9) ∧ FrS M M' ∧ FrC LC c c' ∧ (∀ l, LC ≤ l → l < LC' → c'.2.1 12 (8 * l + 5) = 0) ∧ M'.2.1 9 8 = M.2.1 9 8 + bI b ∧ (∀ j, j < 4 → M'.2.1 9 j = M.2.1 9 j) ∧ (∀ l, l < LC → M'.2.1 9 (58 + 6 * l) = M.2.1 9 (58 + 6 * l)) ∧ (∀ a, a < CC → a ≠ q → M'.2.1 9 (602 + 7 * a + 3) = M.2.1 9 (602 + 7 * a + 3)) ∧ Rch P NP CC T LC FC (M.2.1 9) T LC' FC (M'.2.1 9) := fun a1 a2 =>
    ⟨c2, M2, false, LC, ⟨c, a1, z1⟩, a2, Nat.le_refl _, z3, z4, z5, fun l x1 x2 => absurd x1 (by omega), by rw [z6 8 (by omega) (by omega) (by omega)]; exact (Int32.add_zero _).symm, fun j hj => z6 j (by omega) (by omega) (by omega), fun l hl => z6 _ (by omega) (by omega) (by omega), fun a ha hne => z6 _ (by omega) (by omega) (by omega), z7⟩
  by_cases hb0 : nI b ≤ 0
  · by_cases hgf : g ≤ pc (M.2.1 9) P (-1)
    · have hle0 : nI g - nI (pc (M.2.1 9) P (-1)) ≤ 0 := (pk_le0 (by omega) (by omega)).mpr hgf
      obtain ⟨c', M', y1, y2, y3, y4, y5, y6, y7, y8, y9, y10, y11⟩ := meet (n := n) hR hNP hn hD hq hw hp hpo hg (by omega) hgf
      refine ⟨c', M', true, LC + 1, ⟨c', ?_, rfl⟩, ?_, by omega, y3, y4, y5, fun l x1 x2 => by rw [show l = LC by omega]; exact y6, y7, y8, y9, y10, y11⟩
      · rw [hc0, if_pos hb0, if_pos (nI_le hgf (by omega))]
        exact y1
      · rw [hm0, if_pos hb0, if_pos hle0]
        unfold j_X9_looksAt_50
        rw [if_pos hle0, y2, ebnd]
    · have hlt : pc (M.2.1 9) P (-1) < g := by omega
      have hle0 : ¬ nI g - nI (pc (M.2.1 9) P (-1)) ≤ 0 := fun z => hgf ((pk_le0 (by omega) (by omega)).mp z)
      have hbp80 : bp (M.2.1 9) P LC ≤ 80 * 64 := by
        have h1 : bp (M.2.1 9) P LC ≤ LC * 64 := fb_sm_bound fun l hl => by
          have := pc_le (M.2.1 9) P (nI l)
          split <;> omega
        have h2 : LC * 64 ≤ 80 * 64 := Nat.mul_le_mul h80 (Nat.le_refl _)
        omega
      have hsub : nI g - nI (pc (M.2.1 9) P (-1)) = nI (g - pc (M.2.1 9) P (-1)) := pk_sub (show pc (M.2.1 9) P (-1) ≤ g by omega)
      rw [if_pos hb0, if_neg (nI_ge hlt (show g < 2 ^ 31 by omega)), c_brokenPages hR h64 hn, ebnd, hsub] at hc0
      rw [if_pos hb0, if_neg hle0, m_brokenPages hP h64 hn hR.mloans h80, ebnd, hsub] at hm0
      by_cases hbp : g - pc (M.2.1 9) P (-1) ≤ bp (M.2.1 9) P LC
      · have hnk : nbk (M.2.1 9) P LC ≤ LC := fb_ct_le _ _
        rw [if_pos (nI_le hbp (by omega))] at hc0 hm0
        obtain ⟨c1, M1, t1, t2, t3, t4, t5, t6, t7, t8, t9⟩ := takeBack (n := n) (g - pc (M.2.1 9) P (-1)) c M 0 n n hR hP hn (by omega) hbp (fun _ => by omega) (by omega) (by omega) (by omega)
        have hw1 : wt (M1.2.1 9) q = true := by
          unfold wt
          rw [t6 _ (by omega)]
          exact hw
        obtain ⟨c', M', y1, y2, y3, y4, y5, y6, y7, y8, y9, y10, y11⟩ := meet (n := n) t3 hNP hn hD hq hw1 hp (by rw [t6 _ (by omega)]; exact hpo) (by rw [t6 _ (by omega)]; exact hg) (by omega) (by rw [t8]; omega)
        refine ⟨c', M', true, LC + 1, ⟨c', ?_, rfl⟩, ?_, by omega, y3, t4.tr y4, t5.tr y5 (Nat.le_refl _), fun l x1 x2 => by rw [show l = LC by omega]; exact y6, ?_, fun j hj => (y8 j hj).trans (t6 j (by omega)), fun l hl => (y9 l hl).trans (t7 l hl), fun a ha hne => (y10 a ha hne).trans (t6 _ (by omega)), t9.tr y11⟩
        · rw [hc0, show f_X2_takeBack n c (nI (g - pc (M.2.1 9) P (-1))) = some c1 from t1, ebnd]
          exact y1
        · rw [hm0]
          unfold j_X9_looksAt_50
          rw [if_neg (nI_nle (by omega) (by omega)), show f_X9_takesBack n M (nI (g - pc (M.2.1 9) P (-1))) = some M1 from t2, ebnd, y2, ebnd]
        · rw [y7, t6 8 (by omega)]
          rfl
      · rw [if_neg (nI_ge (show bp (M.2.1 9) P LC < g - pc (M.2.1 9) P (-1) by omega) (show g - pc (M.2.1 9) P (-1) < 2 ^ 31 by omega))] at hc0 hm0
        exact off hc0 hm0
  · rw [if_neg hb0] at hc0 hm0
    exact off hc0 hm0
end HEAR
