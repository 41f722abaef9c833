/-! the claims that wait, in their line -/
def rk (m : Nat → Int32) (q : Nat) : Int32 := if m 1 = 1 then m (602 + 7 * q + 1) else if m 1 = 2 then m (10 + 6 * (m (602 + 7 * q)).toNatClampNeg) else 0
def shf (w : Nat → Int32) (k p : Nat) : Nat → Int32 := fun j => if p < j ∧ j ≤ k then w (j - 1) else w j
def insr (w : Nat → Int32) (k p : Nat) (x : Int32) : Nat → Int32 := fun j => if j < p then w j else if j = p then x else if j ≤ k then w (j - 1) else w j
theorem shf_k (w : Nat → Int32) (k : Nat) : shf w k k = w := by
  funext j
  exact if_neg (by omega)
theorem shf_upd {w : Nat → Int32} {k p : Nat} (h : p < k) : upd (shf w k (p + 1)) (p + 1) (w p) = shf w k p := by
  funext j
  unfold upd shf
  by_cases e : j = p + 1
  · rw [if_pos e, if_pos (by omega), e]
    rfl
  · rw [if_neg e]
    by_cases e2 : p < j ∧ j ≤ k
    · rw [if_pos e2, if_pos (by omega)]
    · rw [if_neg e2, if_neg (by omega)]
theorem insr_upd {w : Nat → Int32} {k p : Nat} {x : Int32} (h : p ≤ k) : upd (shf w k p) p x = insr w k p x := by
  funext j
  unfold upd shf insr
  by_cases e : j = p
  · rw [if_pos e, if_neg (by omega), if_pos e]
  · rw [if_neg e, if_neg e]
    by_cases e2 : j < p
    · rw [if_pos e2, if_neg (by omega)]
    · rw [if_neg e2]
      by_cases e3 : j ≤ k
      · rw [if_pos e3, if_pos (by omega)]
      · rw [if_neg e3, if_neg (by omega)]
section LINE
variable {P NP D K T LC CC FC E Bs F Pt Ap n : Nat} {c ru M : OS} {m : Nat → Int32}
theorem R0.line (h : R0 P NP D K T LC CC FC c m) (w : Nat → Int32) : R0 P NP D K T LC CC FC (sA c 15 w) m := h.ext (fun _ _ _ _ => rfl) (fun j _ _ => sA_o (by omega)) rfl (fun _ _ _ _ => rfl)
theorem c_rankOf (h : R0 P NP D K T LC CC FC c m) (hNP : NP ≤ 8) {q : Nat} (hq : q < CC) : f_X2_rankOf n c (nI q) = some (rk m q) := by
  have h60 := h.C60
  obtain ⟨⟨p, hp, hpo⟩, _, _⟩ := h.2.2.2.2.2.2.1 q hq
  have e1 := h.1.2.2.2.2.2.1 q hq 1 (by omega)
  have e0 : c.2.1 13 (7 * q) = m (602 + 7 * q) := h.1.2.2.2.2.2.1 q hq 0 (by omega)
  have u0 := (h.1.2.2.2.1 p (by omega)).1
  unfold f_X2_rankOf rk
  rw [h.1.1.2.1]
  by_cases o1 : m 1 = 1
  · rw [if_pos o1, if_pos o1, gC1 (by omega), ebnd, e1]
  · rw [if_neg o1, if_neg o1]
    by_cases o2 : m 1 = 2
    · rw [if_pos o2, if_pos o2, gC0 (by omega), ebnd, e0, hpo, gP0 (by omega), ebnd, u0, nI_clamp (by omega)]
    · rw [if_neg o2, if_neg o2]
theorem m_rankOf (h : R0 P NP D K T LC CC FC c (M.2.1 9)) (hNP : NP ≤ 8) {q : Nat} (hq : q < CC) : f_X9_rankOf n M (nI q) = some (rk (M.2.1 9) q) := by
  have h60 := h.C60
  obtain ⟨⟨p, hp, hpo⟩, _, _⟩ := h.2.2.2.2.2.2.1 q hq
  unfold f_X9_rankOf rk
  rw [gz1]
  by_cases o1 : M.2.1 9 1 = 1
  · rw [if_pos o1, if_pos o1, mC1 (by omega), ebnd]
  · rw [if_neg o1, if_neg o1]
    by_cases o2 : M.2.1 9 1 = 2
    · rw [if_pos o2, if_pos o2, mC0 (by omega), ebnd, hpo, mP0 (by omega), ebnd, nI_clamp (by omega)]
    · rw [if_neg o2, if_neg o2]
theorem line_in (hR : R0 P NP D K T LC CC FC c (M.2.1 9)) (hNP : NP ≤ 8) {q k : Nat} (hq : q < CC) (hk : k < 60) {f : Nat → Nat} {w u : Nat → Int32} (hf : ∀ j, j < k → w j = nI (f j) ∧ u j = nI (f j) ∧ f j < CC) (rc : OS → Int32 → Int32 → Option (OS × Int32)) (rc2 : OS → Int32 → Int32 → Option (OS × Int32)) : ∀ (p N N2 : Nat), p ≤ k → p < N → p < N2 → ∃ p', p' ≤ k ∧ l_X2_lineUp_38 n (nI k) (nI q) (rk (M.2.1 9) q) rc N (sA c 15 (shf w k p)) (nI p) = rc (sA c 15 (insr w k p' (nI q))) (nI (k + 1)) (nI (q + 1)) ∧ l_X9_lines_28 n (nI k) (nI q) rc2 N2 (sA M 21 (shf u k p)) (nI p) = rc2 (sA M 21 (insr u k p' (nI q))) (nI (k + 1)) (nI (q + 1)) := by
  have ec : ∀ p, p ≤ k → j_X2_lineUp_79 n rc (sA c 15 (shf w k p)) (nI k) (nI q) (nI p) = rc (sA c 15 (insr w k p (nI q))) (nI (k + 1)) (nI (q + 1)) := fun p hp => by
    unfold j_X2_lineUp_79
    rw [egN (by omega) (by decide), eLet, eLet, eLet, nI_clamp (by omega), sA_get, sA_sA, insr_upd hp, nI_1, nI_1]
  have em : ∀ p, p ≤ k → j_X9_lines_73 n rc2 (sA M 21 (shf u k p)) (nI k) (nI q) (nI p) = rc2 (sA M 21 (insr u k p (nI q))) (nI (k + 1)) (nI (q + 1)) := fun p hp => by
    unfold j_X9_lines_73
    rw [egN (by omega) (by decide), eLet, eLet, eLet, nI_clamp (by omega), sA_get, sA_sA, insr_upd hp, nI_1, nI_1]
  intro p
  induction p with
  | zero =>
    intro N N2 _ h1 h2
    obtain ⟨N', rfl⟩ : ∃ N', N = N' + 1 := ⟨N - 1, by omega⟩
    obtain ⟨N2', rfl⟩ : ∃ N', N2 = N' + 1 := ⟨N2 - 1, by omega⟩
    refine ⟨0, by omega, ?_, ?_⟩
    · show s_X2_lineUp_38 n (nI k) (nI q) (rk (M.2.1 9) q) rc _ (sA c 15 (shf w k 0)) (nI 0) = _
      unfold s_X2_lineUp_38
      rw [if_pos (nI_zle rfl)]
      exact ec 0 (by omega)
    · show s_X9_lines_28 n (nI k) (nI q) rc2 _ (sA M 21 (shf u k 0)) (nI 0) = _
      unfold s_X9_lines_28
      rw [if_pos (nI_zle rfl)]
      exact em 0 (by omega)
  | succ p ih =>
    intro N N2 hp h1 h2
    obtain ⟨N', rfl⟩ : ∃ N', N = N' + 1 := ⟨N - 1, by omega⟩
    obtain ⟨N2', rfl⟩ : ∃ N', N2 = N' + 1 := ⟨N2 - 1, by omega⟩
    obtain ⟨f1, f2, f3⟩ := hf p (by omega)
    have r1 : shf w k (p + 1) p = w p := if_neg (by omega)
    have r2 : shf u k (p + 1) p = u p := if_neg (by omega)
    have k1 := c_rankOf (n := n) (hR.line (shf w k (p + 1))) hNP f3
    have hR2 : R0 P NP D K T LC CC FC c ((sA M 21 (shf u k (p + 1))).2.1 9) := hR
    have k2 := m_rankOf (n := n) hR2 hNP f3
    have k3 := m_rankOf (n := n) hR2 hNP hq
    have e9 : (sA M 21 (shf u k (p + 1))).2.1 9 = M.2.1 9 := sA_o (by decide)
    rw [e9] at k2 k3
    by_cases hr : rk (M.2.1 9) (f p) ≤ rk (M.2.1 9) q
    · refine ⟨p + 1, hp, ?_, ?_⟩
      · show s_X2_lineUp_38 n (nI k) (nI q) (rk (M.2.1 9) q) rc _ (sA c 15 (shf w k (p + 1))) (nI (p + 1)) = _
        unfold s_X2_lineUp_38
        rw [if_neg (nI_nle (by omega) (by omega)), nI_pred, egN (by omega) (by decide), eLet, nI_clamp (by omega), sA_get, r1, f1, k1, ebnd, if_pos hr]
        exact ec (p + 1) hp
      · show s_X9_lines_28 n (nI k) (nI q) rc2 _ (sA M 21 (shf u k (p + 1))) (nI (p + 1)) = _
        unfold s_X9_lines_28
        rw [if_neg (nI_nle (by omega) (by omega)), nI_pred, egN (by omega) (by decide), eLet, nI_clamp (by omega), sA_get, r2, f2, k2, ebnd, k3, ebnd, if_pos hr]
        exact em (p + 1) hp
    · obtain ⟨p', g1, g2, g3⟩ := ih N' N2' (by omega) (by omega) (by omega)
      refine ⟨p', g1, ?_, ?_⟩
      · rw [← g2]
        show s_X2_lineUp_38 n (nI k) (nI q) (rk (M.2.1 9) q) rc _ (sA c 15 (shf w k (p + 1))) (nI (p + 1)) = _
        unfold s_X2_lineUp_38
        rw [if_neg (nI_nle (by omega) (by omega)), nI_pred, egN (by omega) (by decide), eLet, nI_clamp (by omega), sA_get, r1, f1, k1, ebnd, if_neg hr, egN (by omega) (by decide), eLet, egN (by omega) (by decide), eLet, eLet, pk_m1, nI_clamp (by omega), sA_sA, ← f1, shf_upd (by omega)]
      · rw [← g3]
        show s_X9_lines_28 n (nI k) (nI q) rc2 _ (sA M 21 (shf u k (p + 1))) (nI (p + 1)) = _
        unfold s_X9_lines_28
        rw [if_neg (nI_nle (by omega) (by omega)), nI_pred, egN (by omega) (by decide), eLet, nI_clamp (by omega), sA_get, r2, f2, k2, ebnd, k3, ebnd, if_neg hr, egN (by omega) (by decide), eLet, egN (by omega) (by decide), eLet, eLet, nI_clamp (by omega), sA_sA, ← f2, shf_upd (by omega)]
/-- the line: k different claims that wait, those of f, on both sides -/
def LN (m : Nat → Int32) (i k : Nat) (f : Nat → Nat) (w u : Nat → Int32) : Prop := k = fb_ct (wt m) i ∧ (∀ j, j < k → w j = nI (f j) ∧ u j = nI (f j) ∧ f j < i ∧ wt m (f j) = true) ∧ (∀ a b, a < b → b < k → f a ≠ f b)
theorem lineUp (hR : R0 P NP D K T LC CC FC c (M.2.1 9)) (hNP : NP ≤ 8) (hn : 100 < n) : ∃ k f w u, f_X2_lineUp n c = some (sA c 15 w, nI k) ∧ f_X9_lines n M = some (sA M 21 u, nI k) ∧ LN (M.2.1 9) CC k f w u := by
  have h60 := hR.C60
  have hh := loop_rel (l := fun N (s : OS × Int32) i => l_X2_lineUp_4 n N s.1 s.2 i) (l2 := fun N (t : OS × Int32) i => l_X9_lines_4 n N t.1 t.2 i)
    (fun i s t => ∃ k f w u, s = (sA c 15 w, nI k) ∧ t = (sA M 21 u, nI k) ∧ LN (M.2.1 9) i k f w u) (Q := fun r r2 => ∃ k f w u, r = (sA c 15 w, nI k) ∧ r2 = (sA M 21 u, nI k) ∧ LN (M.2.1 9) CC k f w u) (K := CC) ?_ ?_ 0 n n (c, 0) (M, 0) (by omega) (by omega) (by omega) ?_
  · obtain ⟨r, r2, a1, a2, k, f, w, u, a3, a4, a5⟩ := hh
    exact ⟨k, f, w, u, a1.trans (congrArg some a3), a2.trans (congrArg some a4), a5⟩
  · rintro N N2 s t ⟨k, f, w, u, rfl, rfl, hl⟩
    refine ⟨(sA c 15 w, nI k), (sA M 21 u, nI k), ?_, ?_, k, f, w, u, rfl, rfl, hl⟩
    · show s_X2_lineUp_4 n _ (sA c 15 w) (nI k) (nI CC) = _
      unfold s_X2_lineUp_4
      rw [show (sA c 15 w).1 4 = nI CC from hR.claims, if_pos (Int32.le_refl _)]
    · show s_X9_lines_4 n _ (sA M 21 u) (nI k) (nI CC) = _
      unfold s_X9_lines_4
      rw [gz7, show (sA M 21 u).2.1 9 7 = nI CC from hR.mclaims, if_pos (Int32.le_refl _)]
  · rintro N N2 s t i hi ⟨k, f, w, u, rfl, rfl, hl1, hl2, hl3⟩
    have hki : k ≤ i := hl1 ▸ fb_ct_le _ _
    have hc0 : s_X2_lineUp_4 n (l_X2_lineUp_4 n N) (sA c 15 w) (nI k) (nI i) = l_X2_lineUp_4 n (N + 1) (sA c 15 w) (nI k) (nI i) := rfl
    have hm0 : s_X9_lines_4 n (l_X9_lines_4 n N2) (sA M 21 u) (nI k) (nI i) = l_X9_lines_4 n (N2 + 1) (sA M 21 u) (nI k) (nI i) := rfl
    have hRw := hR.line w
    have hRu : R0 P NP D K T LC CC FC c ((sA M 21 u).2.1 9) := hR
    have e9 : (sA M 21 u).2.1 9 = M.2.1 9 := sA_o (by decide)
    by_cases hw : wt (M.2.1 9) i = true
    · obtain ⟨p', g1, g2, g3⟩ := line_in (n := n) hR hNP hi (k := k) (by omega) (f := f) (w := w) (u := u) (fun j hj => ⟨(hl2 j hj).1, (hl2 j hj).2.1, by have := (hl2 j hj).2.2.1; omega⟩) (l_X2_lineUp_4 n N) (l_X9_lines_4 n N2) k n n (Nat.le_refl _) (by omega) (by omega)
      rw [shf_k] at g2 g3
      refine ⟨(sA c 15 (insr w k p' (nI i)), nI (k + 1)), (sA M 21 (insr u k p' (nI i)), nI (k + 1)), ?_, ?_, ?_⟩
      rotate_left
      · show l_X2_lineUp_4 n (N + 1) (sA c 15 w) (nI k) (nI i) = l_X2_lineUp_4 n N (sA c 15 (insr w k p' (nI i))) (nI (k + 1)) (nI (i + 1))
        rw [← hc0]
        unfold s_X2_lineUp_4
        rw [show (sA c 15 w).1 4 = nI CC from hR.claims, if_neg (nI_ge hi (by omega)), if_neg (show ¬ (60 : Int32) ≤ nI k from nI_ge (a := k) (b := 60) (by omega) (by omega)), c_waits hRw hi, ebnd, ifz, if_pos hw, c_rankOf hRw hNP hi, ebnd]
        exact g2
      · show l_X9_lines_4 n (N2 + 1) (sA M 21 u) (nI k) (nI i) = l_X9_lines_4 n N2 (sA M 21 (insr u k p' (nI i))) (nI (k + 1)) (nI (i + 1))
        rw [← hm0]
        unfold s_X9_lines_4
        rw [gz7, show (sA M 21 u).2.1 9 7 = nI CC from hR.mclaims, if_neg (nI_ge hi (by omega)), m_doesWait (by omega), ebnd, ifz, e9, if_pos hw]
        exact g3
      · refine ⟨k + 1, fun j => if j < p' then f j else if j = p' then i else f (j - 1), insr w k p' (nI i), insr u k p' (nI i), rfl, rfl, ?_, ?_, ?_⟩
        · rw [fb_ct_succ, if_pos hw, hl1]
        · intro j hj
          show insr w k p' (nI i) j = nI (if j < p' then f j else if j = p' then i else f (j - 1)) ∧ insr u k p' (nI i) j = nI (if j < p' then f j else if j = p' then i else f (j - 1)) ∧ (if j < p' then f j else if j = p' then i else f (j - 1)) < i + 1 ∧ wt (M.2.1 9) (if j < p' then f j else if j = p' then i else f (j - 1)) = true
          unfold insr
          by_cases e1 : j < p'
          · obtain ⟨a1, a2, a3, a4⟩ := hl2 j (by omega)
            rw [if_pos e1, if_pos e1, if_pos e1]
            exact ⟨a1, a2, by omega, a4⟩
          · rw [if_neg e1, if_neg e1, if_neg e1]
            by_cases e2 : j = p'
            · rw [if_pos e2, if_pos e2, if_pos e2]
              exact ⟨rfl, rfl, by omega, hw⟩
            · obtain ⟨a1, a2, a3, a4⟩ := hl2 (j - 1) (by omega)
              rw [if_neg e2, if_neg e2, if_neg e2, if_pos (by omega), if_pos (by omega)]
              exact ⟨a1, a2, by omega, a4⟩
        · intro a b hab hb
          show (if a < p' then f a else if a = p' then i else f (a - 1)) ≠ (if b < p' then f b else if b = p' then i else f (b - 1))
          by_cases b1 : b < p'
          · rw [if_pos b1, if_pos (by omega)]
            exact hl3 a b hab (by omega)
          · rw [if_neg b1]
            by_cases b2 : b = p'
            · have := (hl2 a (by omega)).2.2.1
              rw [if_pos b2, if_pos (by omega)]
              omega
            · rw [if_neg b2]
              by_cases a1 : a < p'
              · rw [if_pos a1]
                exact hl3 a (b - 1) (by omega) (by omega)
              · rw [if_neg a1]
                by_cases a2 : a = p'
                · have := (hl2 (b - 1) (by omega)).2.2.1
                  rw [if_pos a2]
                  omega
                · rw [if_neg a2]
                  exact hl3 (a - 1) (b - 1) (by omega) (by omega)
    · refine ⟨(sA c 15 w, nI k), (sA M 21 u, nI k), ⟨k, f, w, u, rfl, rfl, ?_, fun j hj => ?_, hl3⟩, ?_, ?_⟩
      · rw [fb_ct_succ, if_neg hw, hl1, Nat.add_zero]
      · obtain ⟨a1, a2, a3, a4⟩ := hl2 j hj
        exact ⟨a1, a2, by omega, a4⟩
      · show l_X2_lineUp_4 n (N + 1) (sA c 15 w) (nI k) (nI i) = l_X2_lineUp_4 n N (sA c 15 w) (nI k) (nI (i + 1))
        rw [← hc0]
        unfold s_X2_lineUp_4
        rw [show (sA c 15 w).1 4 = nI CC from hR.claims, if_neg (nI_ge hi (by omega)), if_neg (show ¬ (60 : Int32) ≤ nI k from nI_ge (a := k) (b := 60) (by omega) (by omega)), c_waits hRw hi, ebnd, ifz, if_neg hw, eLet, nI_1]
      · show l_X9_lines_4 n (N2 + 1) (sA M 21 u) (nI k) (nI i) = l_X9_lines_4 n N2 (sA M 21 u) (nI k) (nI (i + 1))
        rw [← hm0]
        unfold s_X9_lines_4
        rw [gz7, show (sA M 21 u).2.1 9 7 = nI CC from hR.mclaims, if_neg (nI_ge hi (by omega)), m_doesWait (by omega), ebnd, ifz, e9, if_neg hw, eLet, nI_1]
  · refine ⟨0, fun _ => 0, c.2.1 15, M.2.1 21, ?_, ?_, rfl, fun j hj => absurd hj (by omega), fun a b _ hb => absurd hb (by omega)⟩
    · rw [sA_self]
      rfl
    · rw [sA_self]
      rfl
end LINE
