/-! a hearing, a tick -/
theorem su_zero {f : Nat → Int32} {a : Nat} : ∀ {b : Nat}, a ≤ b → (∀ l, a ≤ l → l < b → f l = 0) → su f b = su f a
  | 0, h, _ => by rw [show a = 0 by omega]
  | b + 1, h, h2 => by
    by_cases e : a = b + 1
    · rw [e]
    · show su f b + f b = su f a
      rw [su_zero (b := b) (by omega) (fun l h3 h4 => h2 l h3 (by omega)), h2 b (by omega) (by omega), Int32.add_zero]
section TICK
variable {P NP D K T LC CC FC E Bs F Pt Ap n : Nat} {c ru M : OS} {m : Nat → Int32}
theorem j_hears : j_X9_hears_32 n M = some (sA M 9 (upd (upd (M.2.1 9) 3 (M.2.1 9 0)) 2 (M.2.1 9 2 + 1))) := by
  unfold j_X9_hears_32
  rw [gz0, hz3, gz2, sA_get, hz2, sA_sA, upd_n (by decide)]
/-- as the line is gone through: i of its k claims are done -/
def HC (P NP D T LC CC FC k : Nat) (f : Nat → Nat) (c0 M0 : OS) (i : Nat) (s : OS × Int32) (M : OS) : Prop := ∃ LC', LC ≤ LC' ∧ R0 P NP D 20 T LC' CC FC s.1 (M.2.1 9) ∧ FrS M0 M ∧ FrC LC c0 s.1 ∧ (∀ l, LC ≤ l → l < LC' → s.1.2.1 12 (8 * l + 5) = 0) ∧ (∀ j, i ≤ j → j < k → wt (M.2.1 9) (f j) = true) ∧ (∀ q, q < CC → wt (M0.2.1 9) q = false → M.2.1 9 (602 + 7 * q + 3) = M0.2.1 9 (602 + 7 * q + 3)) ∧ M.2.1 9 8 = M0.2.1 9 8 + s.2 ∧ (∀ j, j < 4 → M.2.1 9 j = M0.2.1 9 j) ∧ (∀ l, l < LC → M.2.1 9 (58 + 6 * l) = M0.2.1 9 (58 + 6 * l)) ∧ Rch P NP CC T LC FC (M0.2.1 9) T LC' FC (M.2.1 9)
theorem hearClaims (hR : R0 P NP D 20 T LC CC FC c (M.2.1 9)) (hU : Ru P NP E Bs F Pt Ap ru M) (hn : 100 < n) (hD : 2100 ≤ D) {k : Nat} {f : Nat → Nat} {w u : Nat → Int32} (hL : LN (M.2.1 9) CC k f w u) (hw : c.2.1 15 = w) (hu : M.2.1 21 = u) : ∃ r M', l_X2_hearClaims_10 n ru (nI k) n c 0 0 = some r ∧ l_X9_hears_11 n (nI k) n M 0 = j_X9_hears_32 n M' ∧ HC P NP D T LC CC FC k f c M k r M' := by
  have h60 := hR.C60
  obtain ⟨hk, hl2, hl3⟩ := hL
  have hkc : k ≤ CC := hk ▸ fb_ct_le _ _
  have hh := loop_rel (l := fun N (s : OS × Int32) i => l_X2_hearClaims_10 n ru (nI k) N s.1 s.2 i) (l2 := fun N (t : OS) i => (some (l_X9_hears_11 n (nI k) N t i) : Option (Option OS)))
    (HC P NP D T LC CC FC k f c M) (Q := fun r r2 => ∃ M', r2 = j_X9_hears_32 n M' ∧ HC P NP D T LC CC FC k f c M k r M') (K := k) ?_ ?_ 0 n n (c, 0) M (by omega) (by omega) (by omega) ?_
  · obtain ⟨r, r2, a1, a2, M', a3, a4⟩ := hh
    refine ⟨r, M', a1, ?_, a4⟩
    rw [← a3]
    exact Option.some.inj a2
  · intro N N2 s t hI
    refine ⟨s, j_X9_hears_32 n t, ?_, ?_, t, rfl, hI⟩
    · show s_X2_hearClaims_10 n ru (nI k) _ s.1 s.2 (nI k) = _
      unfold s_X2_hearClaims_10
      rw [if_pos (Int32.le_refl _)]
    · show some (s_X9_hears_11 n (nI k) _ t (nI k)) = _
      unfold s_X9_hears_11
      rw [if_pos (Int32.le_refl _)]
  · intro N N2 s t i hi hI
    obtain ⟨s1, s2⟩ := s
    obtain ⟨LC', g1, g2, g3, g4, g5, g6, g7, g8, g9, g10, g11⟩ := hI
    simp only at g2 g4 g5 g8
    obtain ⟨f1, f2, f3, f4⟩ := hl2 i hi
    have hU' := hU.Fr g3.fr
    have hwi := g6 i (Nat.le_refl _) hi
    obtain ⟨c', M', b, LC2, ⟨c1, y1, y2⟩, y3, y4, y5, y6, y7, y8, y9, y10, y11, y12, y13⟩ := lookAt (n := n) g2 hU' hn hD f3 hwi
    have hline : f_X2_inLine n s1 (nI i) = some (nI (f i)) := by
      unfold f_X2_inLine
      rw [if_neg (nI_pos (by omega)), if_neg (show ¬ (60 : Int32) ≤ nI i from nI_ge (a := i) (b := 60) (by omega) (by omega)), egN (by omega) (by decide), eLet, nI_clamp (by omega), g4.2.2.1, hw, f1]
    have hrow : t.2.1 21 i = nI (f i) := by rw [g3.2.1 21 (by decide), hu, f2]
    refine ⟨(c', s2 + bI b), M', ?_, ?_, ?_⟩
    · refine ⟨LC2, by omega, y5, g3.tr y6, g4.tr y7 g1, ?_, ?_, ?_, ?_, ?_, ?_, g11.tr y13⟩
      · intro l x1 x2
        by_cases e : l < LC'
        · show c'.2.1 12 (8 * l + 5) = 0
          rw [y7.2.2.2 l e]
          exact g5 l x1 e
        · exact y8 l (by omega) x2
      · intro j x1 x2
        have hne : f j ≠ f i := fun z => hl3 i j (by omega) x2 z.symm
        have hc := (hl2 j x2).2.2.1
        unfold wt
        rw [y12 (f j) hc hne]
        exact g6 j (by omega) x2
      · intro q x1 x2
        by_cases e : q = f i
        · subst e
          have := f4
          rw [x2] at this
          cases this
        · rw [y12 q x1 e]
          exact g7 q x1 x2
      · show M'.2.1 9 8 = M.2.1 9 8 + (s2 + bI b)
        rw [y9, g8, Int32.add_assoc]
      · intro j x1
        rw [y10 j x1, g9 j x1]
      · intro l x1
        rw [y11 l (by omega), g10 l x1]
    · show s_X2_hearClaims_10 n ru (nI k) (l_X2_hearClaims_10 n ru (nI k) N) s1 s2 (nI i) = l_X2_hearClaims_10 n ru (nI k) N c' (s2 + bI b) (nI (i + 1))
      unfold s_X2_hearClaims_10
      rw [if_neg (nI_ge hi (by omega)), hline, ebnd, y1, ebnd2, ifz]
      cases b with
      | false =>
        simp only [Bool.false_eq_true, if_false] at y2 ⊢
        rw [y2, ebnd, eLet, nI_1, bI_f, Int32.add_zero]
      | true =>
        simp only [if_true] at y2 ⊢
        rw [eLet, eLet, nI_1, y2]
        rfl
    · show some (s_X9_hears_11 n (nI k) (l_X9_hears_11 n (nI k) N2) t (nI i)) = some (l_X9_hears_11 n (nI k) N2 M' (nI (i + 1)))
      unfold s_X9_hears_11
      rw [if_neg (nI_ge hi (by omega)), egN (by omega) (by decide), eLet, nI_clamp (by omega), hrow, y3, ebnd, eLet, nI_1]
  · exact ⟨LC, Nat.le_refl _, hR, FrS.rf M, FrC.rf LC c, fun l x1 x2 => absurd x1 (by omega), fun j _ x2 => (hl2 j x2).2.2.2, fun _ _ _ => rfl, (Int32.add_zero _).symm, fun _ _ => rfl, fun _ _ => rfl, Rch.rf⟩
/-- what a hearing tells of the fines that are watched -/
def HW (LC LC' : Nat) (c' M M' : OS) : Prop := (M.1 18 = 0 → ∀ l, l < LC → M.1 17 = nI l → M'.1 18 = c'.2.1 12 (8 * l + 5)) ∧ M'.1 20 = M.1 20 + su (fun l => if M'.2.1 9 (58 + 6 * l) = M.1 19 then c'.2.1 12 (8 * l + 5) else 0) LC'
theorem hearing {B : Nat} (hR : R0 P NP D 20 T LC CC FC c (M.2.1 9)) (hH : RHe c (M.2.1 9)) (hU : Ru P NP E Bs F Pt Ap ru M) (hn : 100 < n) (hD : 2100 ≤ D) (hD2 : D ≤ 100000) (hF : FC + 80 ≤ 160000) (hB : M.2.1 9 3 = nI B) (hBT : B < T) : ∃ c' M' met LC' FC', (bnd (f_X2_hearFines n c ru) (fun (th_3 : OS) => Let (sI th_3 6 ((th_3.1 6) + (1 : Int32))) (fun th_4 : OS => Let (sI th_4 7 (th_4.1 0)) (fun th_5 : OS => bnd2 (f_X2_hearClaims n th_5 ru) (fun (th_6 : OS) (r_7 : Int32) => some (th_6, r_7)))))) = some (c', met) ∧ f_X9_hears n M = some M' ∧ R0 P NP D 20 T LC' CC FC' c' (M'.2.1 9) ∧ RHe c' (M'.2.1 9) ∧ M'.2.1 9 3 = nI T ∧ FC' ≤ FC + 80 ∧ LC ≤ LC' ∧ Fr M M' ∧ M'.2.1 9 8 = M.2.1 9 8 + met ∧ (∀ q, q < CC → wt (M.2.1 9) q = false → M'.2.1 9 (602 + 7 * q + 3) = M.2.1 9 (602 + 7 * q + 3)) ∧ HW LC LC' c' M M' ∧ Rch P NP CC T LC FC (M.2.1 9) T LC' FC' (M'.2.1 9) := by
  have h60 := hR.C60
  have h80 := hR.L80
  have hT := hR.time
  have hNP : NP ≤ 8 := hU.2.2.2.2.1
  obtain ⟨c1, M1, x1, x2, FC', g1, g2, g3, g4, g5, g6, g7, g8, g9, g10, g11⟩ := hearFines (n := n) hR hU hn hD2 hF hB (hH.2.trans hB) hBT
  have hU1 := hU.Fr g3
  obtain ⟨c2, hc2⟩ : ∃ c2, c2 = sI (sI c1 6 (c1.1 6 + 1)) 7 (c1.1 0) := ⟨_, rfl⟩
  have hR2 : R0 P NP D 20 T LC CC FC' c2 (M1.2.1 9) := by
    rw [hc2]
    exact g1.ext (fun j _ j6 j7 => by rw [sI_o j7, sI_o j6]) (fun _ _ _ => rfl) rfl (fun _ _ _ _ => rfl)
  obtain ⟨k, f, w, u, a1, a2, a3⟩ := lineUp (n := n) hR2 hNP hn
  have hR3 : R0 P NP D 20 T LC CC FC' (sA c2 15 w) ((sA M1 21 u).2.1 9) := hR2.line w
  have hU3 : Ru P NP E Bs F Pt Ap ru (sA M1 21 u) := hU1.fr fun _ _ _ => rfl
  have e9 : (sA M1 21 u).2.1 9 = M1.2.1 9 := sA_o (by decide)
  obtain ⟨⟨c3, met⟩, M3, b1, b2, LC', d1, d2, d3, d4, d5, d6, d7, d8, d9, d10, d11⟩ := hearClaims (n := n) hR3 hU3 hn hD (k := k) (f := f) (w := w) (u := u) (by rw [e9]; exact a3) (sA_get _ _ _) (sA_get _ _ _)
  rw [e9] at d7 d8 d9 d10 d11
  simp only at d2 d4 d5 d8
  have hT1 := g1.time
  have k0 : M3.2.1 9 0 = nI T := by rw [d9 0 (by omega), hT1.1]
  have k2 : M3.2.1 9 2 = M.2.1 9 2 := by rw [d9 2 (by omega), g8 2 (by omega)]
  obtain ⟨M4, hM4⟩ : ∃ M4, M4 = sA M3 9 (upd (upd (M3.2.1 9) 3 (M3.2.1 9 0)) 2 (M3.2.1 9 2 + 1)) := ⟨_, rfl⟩
  have m4 : ∀ j, j ≠ 2 → j ≠ 3 → M4.2.1 9 j = M3.2.1 9 j := fun j h2 h3 => by rw [hM4, sA_get, upd_n h2, upd_n h3]
  have f31 : M3.1 = M1.1 := d3.1
  have lf1 : ∀ l, l < LC → c3.2.1 12 (8 * l + 5) = c1.2.1 12 (8 * l + 5) := fun l hl => by
    rw [d4.2.2.2 l hl, hc2]
    rfl
  refine ⟨c3, M4, met, LC', FC', ?_, ?_, ?_, ?_, ?_, by omega, d1, ?_, ?_, ?_, ⟨?_, ?_⟩, g11.tr (d11.tr (Rch.ext fun j h2 h3 _ => m4 j h2 h3))⟩
  · rw [x1, ebnd, eLet, eLet]
    show bnd2 (f_X2_hearClaims n (sI (sI c1 6 (c1.1 6 + 1)) 7 ((sI c1 6 (c1.1 6 + 1)).1 0)) ru) _ = _
    rw [show (sI c1 6 (c1.1 6 + 1)).1 0 = c1.1 0 from sI_o (by decide), ← hc2]
    unfold f_X2_hearClaims
    rw [a1, ebnd2, b1, ebnd2]
  · unfold f_X9_hears
    rw [x2, ebnd, a2, ebnd2, b2, j_hears, ← hM4]
  · exact d2.ext (fun _ _ _ _ => rfl) (fun _ _ _ => rfl) rfl (fun j h2 h3 _ => m4 j h2 h3)
  · refine ⟨?_, ?_⟩
    · rw [d4.1, hM4, sA_get, upd_s, k2, hc2]
      show upd (upd c1.1 6 (c1.1 6 + 1)) 7 (c1.1 0) 6 = _
      rw [upd_n (by decide), upd_s, g5, hH.1]
    · rw [d4.2.1, hM4, sA_get, upd_n (by decide), upd_s, k0, hc2]
      exact hT1.2.1
  · rw [hM4, sA_get, upd_n (by decide), upd_s, k0]
  · refine g3.tr ⟨fun j j1 j2 => ?_, fun j j1 j2 => ?_, ?_⟩
    · rw [hM4]
      show M3.1 j = M1.1 j
      rw [f31]
    · rw [hM4, sA_o j1, d3.2.1 j j1]
      exact sA_o j2
    · rw [hM4]
      exact d3.2.2
  · rw [m4 8 (by decide) (by decide), d8, g8 8 (by omega)]
  · intro q q1 q2
    have hw1 : wt (M1.2.1 9) q = false := by
      unfold wt at q2 ⊢
      rw [g8 _ (by omega)]
      exact q2
    rw [m4 _ (by omega) (by omega), d7 q q1 hw1, g8 _ (by omega)]
  · intro h18 l hl h17
    rw [hM4]
    show M3.1 18 = _
    rw [f31, g9 h18 l hl h17, if_pos hl, lf1 l hl]
  · rw [hM4]
    show M3.1 20 = _
    rw [f31, g10, ← hM4]
    congr 1
    have e1 : su (fun l => if M4.2.1 9 (58 + 6 * l) = M.1 19 then c3.2.1 12 (8 * l + 5) else 0) LC' = su (fun l => if M4.2.1 9 (58 + 6 * l) = M.1 19 then c3.2.1 12 (8 * l + 5) else 0) LC := su_zero d1 fun l l1 l2 => by
      rw [d5 l l1 l2, ite_self]
    rw [e1]
    exact su_cong fun l hl => by rw [m4 _ (by omega) (by omega), d10 l hl, g8 _ (by omega), lf1 l hl]
/-! the processes in a tick -/
theorem abs2 {α β : Type} {Q : α → β → Prop} {a : α} {b : β} (h : Q a b) : ∃ x y, x = a ∧ y = b ∧ Q x y := ⟨a, b, rfl, rfl, h⟩
def HPr (P NP D T LC CC FC : Nat) (c0 M0 c M : OS) : Prop := R0 P NP D 20 T LC CC FC c (M.2.1 9) ∧ FrS M0 M ∧ FrC LC c0 c ∧ (∀ j, j < 10 ∨ (58 ≤ j ∧ j < 1342) → M.2.1 9 j = M0.2.1 9 j) ∧ Rch P NP CC T LC FC (M0.2.1 9) T LC FC (M.2.1 9)
theorem tk1 {c0 M0 : OS} (h : HPr P NP D T LC CC FC c0 M0 c M) (hU : Ru P NP E Bs F Pt Ap ru M) (hT1 : 1 ≤ T) {p : Nat} (hp : p < NP) (rc : OS → Int32 → Option (OS × Int32)) (rc2 : OS → Int32 → Option OS) : ∃ c1 M1, s_X2_tick_12 n ru rc c (nI p) = j_X2_tick_57 n ru rc c1 (nI p) ∧ s_X9_ticks_18 n (nI T) rc2 M (nI p) = j_X9_ticks_41 n (nI T) rc2 M1 (nI p) ∧ HPr P NP D T LC CC FC c0 M0 c1 M1 := by
  obtain ⟨hR, h2, h3, h4, h5⟩ := h
  have hNP : NP ≤ 8 := hU.2.2.2.2.1
  have p8 : p < 8 := by omega
  have hT := hR.time
  obtain ⟨u1, u2, u3, u4, u5⟩ := hR.1.2.2.2.1 p p8
  unfold s_X2_tick_12 s_X9_ticks_18
  rw [hU.1.2.1, hU.2.1.2.1, if_neg (nI_ge hp (by omega)), if_neg (nI_ge hp (by omega)), gP2 p8, ebnd, u3, mP2 p8, ebnd]
  by_cases hs : M.2.1 9 (10 + 6 * p + 2) ≤ 0
  · rw [if_pos hs, if_pos hs]
    exact ⟨c, M, rfl, rfl, hR, h2, h3, h4, h5⟩
  · rw [if_neg hs, if_neg hs]
    have s1 := hR.setP p8 (jc := 2) (jm := 2) (by omega) (M.2.1 9 (10 + 6 * p + 2) + -1) (fun z => absurd z (by omega))
    have s2 := s1.setP p8 (jc := 4) (jm := 5) (by omega) (M.2.1 9 (10 + 6 * p + 5) + 1) (fun z => absurd z (by omega))
    have s3 := s2.stall p8 hT1
    rw [sA_get, sA_sA] at s3
    have ix : upd (upd (M.2.1 9) (10 + 6 * p + 2) (M.2.1 9 (10 + 6 * p + 2) + -1)) (10 + 6 * p + 5) (M.2.1 9 (10 + 6 * p + 5) + 1) (1342 + 63 * p + T / 32) = M.2.1 9 (1342 + 63 * p + T / 32) := by rw [upd_n (by omega), upd_n (by omega)]
    have kc := c_noteStalled (n := n) (c := sA c 11 (upd (upd (c.2.1 11) (5 * p + 2) (M.2.1 9 (10 + 6 * p + 2) + -1)) (5 * p + 4) (M.2.1 9 (10 + 6 * p + 5) + 1))) (T := T) p8 hT.2.1 hT.2.2
    obtain ⟨c1, m1, hc1, hm1, hs1⟩ := abs2 (Q := fun c m => R0 P NP D 20 T LC CC FC c m) s3
    refine ⟨c1, sA M 9 m1, ?_, ?_, ⟨by rw [sA_get]; exact hs1, h2.tr (FrS.row M _), h3.tr (LC2 := LC) (by rw [hc1]; exact ⟨rfl, rfl, rfl, fun _ _ => rfl⟩) (Nat.le_refl _), ?_, by rw [sA_get, hm1]; exact h5.tr (Rch.proc ⟨fun j hj => by rw [upd_n (by omega), upd_n (by omega), upd_n (by omega)], fun a ha => ⟨by rw [upd_n (by omega), upd_n (by omega), upd_n (by omega)], by rw [upd_n (by omega), upd_n (by omega), upd_n (by omega)], by
      by_cases e : a = p
      · subst e
        exact Or.inr ⟨hs, by rw [upd_n (by omega), upd_n (by omega), upd_s]⟩
      · exact Or.inl (by rw [upd_n (by omega), upd_n (by omega), upd_n (by omega)])⟩⟩)⟩⟩
    rotate_left
    rotate_left
    · intro j hj
      rw [sA_get, hm1, upd_n (by omega), upd_n (by omega), upd_n (by omega), h4 j hj]
    · rw [hc1, aP2 p8, ebnd, eLet, sA_get, aP4 p8, ebnd, eLet, sA_sA, u3, upd_n (show 5 * p + 4 ≠ 5 * p + 2 by omega), u5, kc, ebnd]
    · unfold f_X9_stands
      rw [hm1, mP2 p8, ebnd, Int32.sub_eq_add_neg, mS2 p8, ebnd, mP5 p8, ebnd, sA_get, upd_n (show 10 + 6 * p + 5 ≠ 10 + 6 * p + 2 by omega), mS5 p8, ebnd, sA_get, sA_sA, m_wordOf (by omega), ebnd, ebnd, rz (by omega), sA_get, wz (by omega), sA_sA, rm32_32 (by omega), ebnd]
theorem tk2 {c0 M0 : OS} (h : HPr P NP D T LC CC FC c0 M0 c M) (hNP : NP ≤ 8) {p : Nat} (hp : p < NP) (rc : OS → Int32 → Option (OS × Int32)) (rc2 : OS → Int32 → Option OS) : ∃ c1 M1, j_X2_tick_57 n ru rc c (nI p) = j_X2_tick_79 n ru rc c1 (nI p) ∧ j_X9_ticks_41 n (nI T) rc2 M (nI p) = j_X9_ticks_64 n (nI T) rc2 M1 (nI p) ∧ HPr P NP D T LC CC FC c0 M0 c1 M1 := by
  obtain ⟨hR, h2, h3, h4, h5⟩ := h
  have p8 : p < 8 := by omega
  obtain ⟨u1, u2, u3, u4, u5⟩ := hR.1.2.2.2.1 p p8
  obtain ⟨_, ⟨b, hb2, hb⟩⟩ := hR.2.2.2.1 p p8
  unfold j_X2_tick_57 j_X9_ticks_41
  rw [gP1 p8, ebnd, u2, mP1 p8, ebnd, hb]
  by_cases hs : nI b ≤ 0
  · rw [if_pos hs, if_pos hs]
    exact ⟨c, M, rfl, rfl, hR, h2, h3, h4, h5⟩
  · have hb0 : 0 < b := by
      rcases Nat.eq_zero_or_pos b with z | z
      · exact absurd (nI_zle z) hs
      · exact z
    obtain ⟨b', rfl⟩ : ∃ b', b = b' + 1 := ⟨b - 1, by omega⟩
    rw [if_neg hs, if_neg hs]
    have s1 := hR.setP p8 (jc := 1) (jm := 1) (by omega) (nI b') (fun z => ⟨b', by omega, rfl⟩)
    obtain ⟨c1, m1, hc1, hm1, hs1⟩ := abs2 (Q := fun c m => R0 P NP D 20 T LC CC FC c m) s1
    refine ⟨c1, sA M 9 m1, ?_, ?_, ⟨by rw [sA_get]; exact hs1, h2.tr (FrS.row M _), h3.tr (LC2 := LC) (by rw [hc1]; exact ⟨rfl, rfl, rfl, fun _ _ => rfl⟩) (Nat.le_refl _), ?_, by rw [sA_get, hm1]; exact h5.tr (Rch.proc ⟨fun j hj => upd_n (by omega), fun a ha => ⟨upd_n (by omega), upd_n (by omega), Or.inl (upd_n (by omega))⟩⟩)⟩⟩
    rotate_left
    rotate_left
    · intro j hj
      rw [sA_get, hm1, upd_n (by omega), h4 j hj]
    · rw [hc1, aP1 p8, ebnd, eLet, u2, hb, pk_m1]
    · rw [hm1, ebnd, nI_pred, mS1 p8, ebnd]
theorem fading (hU : Ru P NP E Bs F Pt Ap ru M) (hT : T ≤ 2000) : f_X5_isFading n ru (nI T) = some (bI (decide (T % F = 0))) ∧ rm32 (nI T) (M.1 5) = nI (T % F) ∧ ¬ M.1 5 = 0 := by
  have hF : 1 ≤ F ∧ F ≤ 99 := ⟨hU.2.2.2.2.2.2.2.2.2.1, hU.2.2.2.2.2.2.2.2.2.2.1⟩
  have e : rm32 (nI T) (nI F) = nI (T % F) := pk_rem (by omega) (by omega) (by omega)
  have hm : T % F < F := Nat.mod_lt _ (by omega)
  refine ⟨?_, ?_, ?_⟩
  · unfold f_X5_isFading
    rw [hU.1.2.2.2.2.1, if_neg (nI_nle (by omega) (by omega)), eoN (nI_ne0 (by omega) (by omega)), e, bI_if]
    exact congrArg (fun z => some (bI z)) (decide_eq_decide.mpr (nI_eq0 (by omega)))
  · rw [hU.2.1.2.2.2.2.1, e]
  · rw [hU.2.1.2.2.2.2.1]
    exact nI_ne0 (by omega) (by omega)
theorem hearingAt (hU : Ru P NP E Bs F Pt Ap ru M) (hT : T ≤ 2000) : f_X5_isHearing n ru (nI T) = some (bI (decide (T % E = 0))) ∧ rm32 (nI T) (M.1 3) = nI (T % E) ∧ ¬ M.1 3 = 0 := by
  have hE : 1 ≤ E ∧ E ≤ 50 := ⟨hU.2.2.2.2.2.1, hU.2.2.2.2.2.2.1⟩
  have e : rm32 (nI T) (nI E) = nI (T % E) := pk_rem (by omega) (by omega) (by omega)
  have hm : T % E < E := Nat.mod_lt _ (by omega)
  refine ⟨?_, ?_, ?_⟩
  · unfold f_X5_isHearing
    rw [hU.1.2.2.1, if_neg (nI_nle (by omega) (by omega)), eoN (nI_ne0 (by omega) (by omega)), e, bI_if]
    exact congrArg (fun z => some (bI z)) (decide_eq_decide.mpr (nI_eq0 (by omega)))
  · rw [hU.2.1.2.2.1, e]
  · rw [hU.2.1.2.2.1]
    exact nI_ne0 (by omega) (by omega)
theorem tk3 {c0 M0 : OS} (h : HPr P NP D T LC CC FC c0 M0 c M) (hU : Ru P NP E Bs F Pt Ap ru M) {p : Nat} (hp : p < NP) (rc : OS → Int32 → Option (OS × Int32)) (rc2 : OS → Int32 → Option OS) : ∃ c1 M1, j_X2_tick_79 n ru rc c (nI p) = rc c1 (nI (p + 1)) ∧ j_X9_ticks_64 n (nI T) rc2 M (nI p) = rc2 M1 (nI (p + 1)) ∧ HPr P NP D T LC CC FC c0 M0 c1 M1 := by
  obtain ⟨hR, h2, h3, h4, h5⟩ := h
  have hNP : NP ≤ 8 := hU.2.2.2.2.1
  have p8 : p < 8 := by omega
  have hT := hR.time
  obtain ⟨u1, u2, u3, u4, u5⟩ := hR.1.2.2.2.1 p p8
  obtain ⟨⟨r, hr2, hr⟩, _⟩ := hR.2.2.2.1 p p8
  obtain ⟨f1, f2, f3⟩ := fading (n := n) hU hT.2.2
  have hm : T % F < 2 ^ 31 := Nat.lt_of_le_of_lt (Nat.mod_le _ _) (by omega)
  unfold j_X2_tick_79 j_X9_ticks_64
  rw [hT.2.1, f1, ebnd, ifz, eoN f3, f2]
  by_cases hs : T % F = 0
  · rw [decide_eq_true hs, if_pos rfl, if_pos ((nI_eq0 hm).mpr hs)]
    have hd : nI r / (2 : Int32) = nI (r / 2) := pk_div (d := 2) (by omega) (by decide) (by decide)
    have s1 := hR.setP p8 (jc := 0) (jm := 0) (by omega) (nI (r / 2)) (fun z => ⟨r / 2, by omega, rfl⟩)
    obtain ⟨c1, m1, hc1, hm1, hs1⟩ := abs2 (Q := fun c m => R0 P NP D 20 T LC CC FC c m) s1
    refine ⟨c1, sA M 9 m1, ?_, ?_, ⟨by rw [sA_get]; exact hs1, h2.tr (FrS.row M _), h3.tr (LC2 := LC) (by rw [hc1]; exact ⟨rfl, rfl, rfl, fun _ _ => rfl⟩) (Nat.le_refl _), ?_, by rw [sA_get, hm1]; exact h5.tr (Rch.proc ⟨fun j hj => upd_n (by omega), fun a ha => ⟨upd_n (by omega), upd_n (by omega), Or.inl (upd_n (by omega))⟩⟩)⟩⟩
    rotate_left
    rotate_left
    · intro j hj
      rw [sA_get, hm1, upd_n (by omega), h4 j hj]
    · rw [hc1, gP0 p8, ebnd, u1, hr, hd, sP0 p8, ebnd, eLet, eLet, nI_1]
      rfl
    · rw [hm1, mP0 p8, ebnd, hr, hd, mS0 p8, ebnd, eLet, nI_1]
      rfl
  · rw [decide_eq_false hs, if_neg (by decide), if_neg (fun z => hs ((nI_eq0 hm).mp z)), eLet, eLet, nI_1]
    exact ⟨c, M, rfl, rfl, hR, h2, h3, h4, h5⟩
/-- what a tick leaves -/
def TK (P NP D T LC CC FC E : Nat) (c M : OS) (c' M' : OS) (met : Int32) : Prop := ∃ LC' FC', RR P NP D (T + 1) LC' CC FC' c' (M'.2.1 9) ∧ LC ≤ LC' ∧ Fr M M' ∧ M'.2.1 9 8 = M.2.1 9 8 + met ∧ (∀ q, q < CC → wt (M.2.1 9) q = false → M'.2.1 9 (602 + 7 * q + 3) = M.2.1 9 (602 + 7 * q + 3)) ∧ ((T + 1) % E ≠ 0 → M'.1 = M.1 ∧ LC' = LC) ∧ ((T + 1) % E = 0 → HW LC LC' c' M M') ∧ Rch P NP CC (T + 1) LC FC (upd (M.2.1 9) 0 (nI (T + 1))) (T + 1) LC' FC' (M'.2.1 9)
theorem tick (hRR : RR P NP D T LC CC FC c (M.2.1 9)) (hU : Ru P NP E Bs F Pt Ap ru M) (hn : 100 < n) (hD : 2100 ≤ D) (hD2 : D ≤ 100000) (hT : T < 2000) : ∃ c' M' met, f_X2_tick n c ru = some (c', met) ∧ f_X9_ticks n M = some M' ∧ TK P NP D T LC CC FC E c M c' M' met := by
  obtain ⟨hR, hH, ⟨B, hB1, hB⟩, hF⟩ := hRR
  have hNP : NP ≤ 8 := hU.2.2.2.2.1
  have h80 := hR.L80
  have h60 := hR.C60
  have hTT := hR.time
  have hR0 := hR.tick hT
  obtain ⟨c0, hc0⟩ : ∃ c0, c0 = sI c 0 (nI (T + 1)) := ⟨_, rfl⟩
  obtain ⟨M0, hM0⟩ : ∃ M0, M0 = sA M 9 (upd (M.2.1 9) 0 (nI (T + 1))) := ⟨_, rfl⟩
  have e9 : M0.2.1 9 = upd (M.2.1 9) 0 (nI (T + 1)) := by rw [hM0, sA_get]
  rw [← hc0, ← e9] at hR0
  have m0o : ∀ j, j ≠ 0 → M0.2.1 9 j = M.2.1 9 j := fun j hj => by rw [e9, upd_n hj]
  have hM01 : M0.1 = M.1 := by rw [hM0]; rfl
  have hU0 : Ru P NP E Bs F Pt Ap ru M0 := hU.fr fun j _ _ => by rw [hM01]
  have fr0 : Fr M M0 := by rw [hM0]; exact Fr.row M _
  have hh := loop_rel (l := l_X2_tick_12 n ru) (l2 := l_X9_ticks_18 n (nI (T + 1))) (fun _ s t => HPr P NP D (T + 1) LC CC FC c0 M0 s t) (Q := fun r M' => TK P NP D T LC CC FC E c M r.1 M' r.2) (K := NP) ?_ ?_ 0 n n c0 M0 (by omega) (by omega) (by omega) ⟨hR0, FrS.rf M0, FrC.rf LC c0, fun _ _ => rfl, Rch.rf⟩
  · obtain ⟨⟨c', met⟩, M', a1, a2, a3⟩ := hh
    refine ⟨c', M', met, ?_, ?_, a3⟩
    · unfold f_X2_tick
      rw [eLet, hTT.2.1, nI_1, ← hc0]
      exact a1
    · unfold f_X9_ticks
      rw [gz0, hTT.1, eLet, nI_1, hz0, ← hM0]
      exact a2
  · rintro N N2 s t ⟨g1, g2, g3, g4, g5⟩
    have hUt := hU0.Fr g2.fr
    have hTs := g1.time
    obtain ⟨f1, f2, f3⟩ := hearingAt (n := n) hUt hTs.2.2
    have hm : (T + 1) % E < 2 ^ 31 := Nat.lt_of_le_of_lt (Nat.mod_le _ _) (by omega)
    have hHs : RHe s (t.2.1 9) := by
      refine ⟨?_, ?_⟩
      · rw [g3.1, g4 2 (by omega), m0o 2 (by omega), ← hH.1, hc0]
        exact sI_o (by decide)
      · rw [g3.2.1, g4 3 (by omega), m0o 3 (by omega), ← hH.2, hc0]
        exact sI_o (by decide)
    have hBt : t.2.1 9 3 = nI B := by rw [g4 3 (by omega), m0o 3 (by omega), hB]
    have hst : ∀ q, q < CC → t.2.1 9 (602 + 7 * q + 3) = M.2.1 9 (602 + 7 * q + 3) := fun q hq => by rw [g4 _ (by omega), m0o _ (by omega)]
    have hm8 : t.2.1 9 8 = M.2.1 9 8 := by rw [g4 8 (by omega), m0o 8 (by omega)]
    have htM : t.1 = M.1 := g2.1.trans hM01
    have k1 : l_X2_tick_12 n ru (N + 1) s (nI NP) = j_X2_tick_116 n ru s := by
      show s_X2_tick_12 n ru _ s (nI NP) = _
      unfold s_X2_tick_12
      rw [hUt.1.2.1, if_pos (Int32.le_refl _)]
    have k2 : l_X9_ticks_18 n (nI (T + 1)) (N2 + 1) t (nI NP) = j_X9_ticks_93 n t (nI (T + 1)) := by
      show s_X9_ticks_18 n (nI (T + 1)) _ t (nI NP) = _
      unfold s_X9_ticks_18
      rw [hUt.2.1.2.1, if_pos (Int32.le_refl _)]
    rw [k1, k2]
    unfold j_X2_tick_116 j_X9_ticks_93
    rw [hTs.2.1, f1, ebnd, ifz, eoN f3, f2]
    by_cases hs : (T + 1) % E = 0
    · rw [decide_eq_true hs, if_pos rfl, if_pos ((nI_eq0 hm).mpr hs)]
      obtain ⟨c', M', met, LC', FC', y1, y2, y3, y4, y5, y6, y7, y8, y9, y10, y11, y12⟩ := hearing (n := n) (B := B) g1 hHs hUt hn hD hD2 (by omega) hBt (by omega)
      refine ⟨(c', met), M', y1, ?_, LC', FC', ⟨y3, y4, ⟨T + 1, Nat.le_refl _, y5⟩, by omega⟩, y7, fr0.tr (g2.fr.tr y8), by rw [y9, hm8], ?_, fun z => absurd hs z, fun _ => ?_, by rw [← e9]; exact g5.tr y12⟩
      · rw [y2, ebnd]
      · intro q q1 q2
        rw [y10 q q1 (by unfold wt at q2 ⊢; rw [hst q q1]; exact q2), hst q q1]
      · obtain ⟨w1, w2⟩ := y11
        rw [htM] at w1 w2
        exact ⟨w1, w2⟩
    · rw [decide_eq_false hs, if_neg (by decide), if_neg (fun z => hs ((nI_eq0 hm).mp z))]
      exact ⟨(s, 0), t, rfl, rfl, LC, FC, ⟨g1, hHs, ⟨B, by omega, hBt⟩, by omega⟩, Nat.le_refl _, fr0.tr g2.fr, by rw [hm8]; exact (Int32.add_zero _).symm, fun q q1 _ => hst q q1, fun _ => ⟨htM, rfl⟩, fun z => absurd z hs, by rw [← e9]; exact g5⟩
  · intro N N2 s t i hi hI
    have hUt := hU0.Fr hI.2.1.fr
    obtain ⟨c1, M1, a1, a2, a3⟩ := tk1 (n := n) hI hUt (by omega) hi (l_X2_tick_12 n ru N) (l_X9_ticks_18 n (nI (T + 1)) N2)
    obtain ⟨c2, M2, b1, b2, b3⟩ := tk2 (n := n) (ru := ru) a3 hNP hi (l_X2_tick_12 n ru N) (l_X9_ticks_18 n (nI (T + 1)) N2)
    obtain ⟨c3, M3, d1, d2, d3⟩ := tk3 (n := n) b3 (hU0.Fr b3.2.1.fr) hi (l_X2_tick_12 n ru N) (l_X9_ticks_18 n (nI (T + 1)) N2)
    refine ⟨c3, M3, d3, ?_, ?_⟩
    · show s_X2_tick_12 n ru (l_X2_tick_12 n ru N) s (nI i) = _
      rw [a1, b1, d1]
    · show s_X9_ticks_18 n (nI (T + 1)) (l_X9_ticks_18 n (nI (T + 1)) N2) t (nI i) = _
      rw [a2, b2, d2]
end TICK
