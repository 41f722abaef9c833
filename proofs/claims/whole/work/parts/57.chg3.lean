/-! appeals; what is undone, saved, restored -/
section CHG3
variable {P NP D D2 K T LC CC FC E Bs F Pt Ap n : Nat} {c x inp ou ru no rd M : OS} {pa : PS} {so : Option OS} {sv : Value} {p3 : Nat → Int64} {m : Nat → Int32}
theorem max0 {a b : Nat} (ha : a < 2 ^ 30) (hb : b < 2 ^ 30) : (if (0 : Int32) < nI a - nI b then nI a - nI b else (0 : Int32)) = nI (a - b) := by
  by_cases h : b < a
  · rw [pk_sub (by omega), if_pos (show (0 : Int32) < nI (a - b) from nI_lt (a := 0) (by omega) (by omega))]
  · rw [if_neg (show ¬ (0 : Int32) < nI a - nI b from Int32.not_lt.mpr ((pk_le0 ha hb).mpr (by omega))), show a - b = 0 by omega]
    rfl
theorem up_le {a L g : Nat} (hL : 0 < L) : (a * (L - g) + L - 1) / L ≤ a := by
  have h1 : a * (L - g) ≤ a * L := Nat.mul_le_mul_left _ (by omega)
  have h2 : (a * (L - g) + L - 1) / L ≤ (a * L + (L - 1)) / L := Nat.div_le_div_right (by omega)
  have h3 : (a * L + (L - 1)) / L = a := by
    rw [Nat.mul_comm, Nat.mul_add_div hL, Nat.div_eq_of_lt (by omega), Nat.add_zero]
  omega
/-- the numbers of an appeal: what the fine is lessened by, what the record is -/
def lsA (a L g : Nat) : Nat := a - (a * (L - g) + L - 1) / L
def lessC (c : OS) (r p q nb nr : Nat) : OS := sA (sA c 14 (upd (upd (c.2.1 14) (8 * r + 5) (nI q)) (8 * r + 6) 1)) 11 (upd (upd (c.2.1 11) (5 * p + 1) (nI nb)) (5 * p) (nI nr))
def lessM (m : Nat → Int32) (r p q nb nr : Nat) : Nat → Int32 := upd (upd (upd (upd m (1022 + 8 * r + 5) (nI q)) (1022 + 8 * r + 6) 1) (10 + 6 * p + 1) (nI nb)) (10 + 6 * p) (nI nr)
theorem c_lessen (hR : R0 P NP D K T LC CC FC no (M.2.1 9)) {f p w b e a g bar rec : Nat} (h4 : f % 40 < FC) (hf : f < 2 ^ 31) (hp : p < 8) (hbe : b < e) (he : e ≤ 2000) (ha : a ≤ 200) (hw : w ≤ 128000) (hg : g ≤ e - b) (hbar : bar ≤ 999) (hrec : rec ≤ 999) (g6 : M.2.1 9 (1022 + 8 * (f % 40)) = nI p) (g7 : M.2.1 9 (1022 + 8 * (f % 40) + 2) = nI w) (g8 : M.2.1 9 (1022 + 8 * (f % 40) + 3) = nI b) (g9 : M.2.1 9 (1022 + 8 * (f % 40) + 4) = nI e) (g10 : M.2.1 9 (1022 + 8 * (f % 40) + 5) = nI a) (hb : M.2.1 9 (10 + 6 * p + 1) = nI bar) (hr : M.2.1 9 (10 + 6 * p) = nI rec) : f_X2_lessen n no (nI f) (nI g) = some (lessC no (f % 40) p (a - lsA a (e - b) g) (bar - lsA a (e - b) g) (rec - w * g / (e - b)), nI (lsA a (e - b) g)) := by
  have h40 : f % 40 < 40 := Nat.mod_lt _ (by decide)
  have hq := up_le (a := a) (L := e - b) (g := g) (by omega)
  have hls : lsA a (e - b) g ≤ a := Nat.sub_le _ _
  have hwg : w * g ≤ 128000 * 2000 := Nat.mul_le_mul hw (by omega)
  have hdv : w * g / (e - b) ≤ w * g := Nat.div_le_self _ _
  have k0 : f_X2_ofFine n no (nI f) (0 : Int32) = some (nI p) := (c_ofFine (j := 0) hR h4 hf (by decide)).trans (congrArg some g6)
  have k2 : f_X2_ofFine n no (nI f) (2 : Int32) = some (nI w) := (c_ofFine (j := 2) hR h4 hf (by decide)).trans (congrArg some g7)
  have k4 : f_X2_ofFine n no (nI f) (4 : Int32) = some (nI e) := (c_ofFine (j := 4) hR h4 hf (by decide)).trans (congrArg some g9)
  have k3 : f_X2_ofFine n no (nI f) (3 : Int32) = some (nI b) := (c_ofFine (j := 3) hR h4 hf (by decide)).trans (congrArg some g8)
  have kl : f_X2_lessBy n no (nI f) (nI g) = some (nI (lsA a (e - b) g)) := by
    rw [c_lessBy hR h4 hf hbe he ha hg g8 g9 g10, pk_sub hq]
    rfl
  obtain ⟨u1, u2, _⟩ := hR.1.2.2.2.1 p hp
  have c5 : no.2.1 14 (8 * (f % 40) + 5) = nI a := (hR.1.2.2.2.2.2.2.1 (f % 40) h40 h4 5 (by decide)).trans g10
  unfold f_X2_lessen
  rw [rm40 hf, eLet, k0, ebnd, k4, ebnd, k3, ebnd, eLet, pk_sub (show b ≤ e by omega), kl, ebnd, if_neg (nI_nle (by omega) (by omega)), k2, ebnd, eoN (nI_ne0 (by omega) (by omega)), pk_mul, pk_div (by omega) (by omega) (by omega)]
  unfold j_X2_lessen_56
  rw [aF5 h40, ebnd, eLet, c5, nI_negadd hls, sA_get, sF6 h40, ebnd, eLet, sA_sA, sA_o (show (11 : Nat) ≠ 14 by decide), gP1 hp, ebnd, u2, hb, max0 (by omega) (by omega), sP1 hp, ebnd, eLet, sA_get, gP0 hp, ebnd, upd_n (show 5 * p ≠ 5 * p + 1 by omega), u1, hr, max0 (by omega) (by omega), sP0 hp, ebnd, eLet, sA_sA]
  rfl
theorem R0.less (hR : R0 P NP D K T LC CC FC c m) {r p q nb nr : Nat} (hr : r < 40) (hf : r < FC) (hp : p < 8) (hq : q ≤ 200) (hb : nb ≤ 999) (hrr : nr ≤ 999) : R0 P NP D K T LC CC FC (lessC c r p q nb nr) (lessM m r p q nb nr) := by
  have s1 := hR.lessen hr hf hq 1
  have s2 := s1.setP hp (jc := 1) (jm := 1) (by omega) (nI nb) (fun _ => ⟨nb, hb, rfl⟩)
  have s3 := s2.setP hp (jc := 0) (jm := 0) (by omega) (nI nr) (fun _ => ⟨nr, hrr, rfl⟩)
  rw [sA_get, sA_sA, sA_o (show (11 : Nat) ≠ 14 by decide)] at s3
  exact s3
theorem lk_appeal (h : RXx P NP E Bs F Pt Ap T LC CC FC D x inp ou ru no rd pa M so) (hA : Ap ≤ 1000) (hn : 13000 < n) (v : Int32) : LKc D x inp ou ru rd M so (f_L_appeal n sv x ru no pa 1 p3 v) (f_X9_appeal n M v) := by
  have hU := h.1
  have hRR := h.2.2.1
  have hR := hRR.1
  have hF := hR.mfines
  have hT := hR.time
  have hNP : NP ≤ 8 := hU.2.2.2.2.1
  unfold f_L_appeal f_X8_appeal f_X9_appeal
  rw [c_needFine hF.2.1 (by omega), ebnd, m_isKnown hF.1 (by omega), ebnd, m_may, ebnd2, ifz, hU.1.2.2.2.2.2.2]
  cases hk : kn v FC with
  | false => exact LKc_no (p3 := p3) (k := 2) h (Nat.le_refl D) rfl (by decide) rfl (EqM.told M 2) rfl
  | true =>
    obtain ⟨f, hf, _, rfl, h4⟩ := kn_ok (by omega) hk
    have hf31 : f < 2 ^ 31 := by omega
    have h40 : f % 40 < 40 := Nat.mod_lt _ (by decide)
    obtain ⟨p, w, b, e, a, g1, g2, g3, g4, g5, g6, g7, g8, g9, g10⟩ := fine_row hR h4 hf31
    have hp : p < 8 := by omega
    obtain ⟨⟨rec, r1, r2⟩, ⟨bar, b1, b2⟩⟩ := hR.2.2.2.1 p hp
    have hg := evd_le (M.2.1 9) p b e
    rw [if_pos rfl, if_pos rfl, if_pos rfl, c_appealable hR hA h4 hf31 g4 g9, ebnd, m_canAppeal (M := sI M 0 (if true = true then 0 else 2)) hR hA hU.2.1.2.2.2.2.2.2 hf31 g4 g9, ebnd, m_may, ebnd2, ifz, ifz, show (sI M 0 (if true = true then 0 else 2)).2.1 9 = M.2.1 9 from rfl]
    cases hap : apb (M.2.1 9) (f % 40) Ap T e with
    | false => exact LKc_no (p3 := p3) (k := 1) h (Nat.le_refl D) rfl (by decide) rfl ((EqM.told M _).tr (EqM.told _ 1)) rfl
    | true =>
      obtain ⟨y, y1, y2⟩ := m_starts (n := n) (M := sI (sI M 0 (if true = true then 0 else 2)) 0 (if true = true then 0 else 1)) (by omega)
      obtain ⟨Mz, hMz⟩ : ∃ Mz, Mz = sA (sI (sI M 0 (if true = true then 0 else 2)) 0 (if true = true then 0 else 1)) 11 y := ⟨_, rfl⟩
      have h9 : Mz.2.1 9 = M.2.1 9 := by rw [hMz]; rfl
      obtain ⟨ls, hls⟩ : ∃ ls, ls = lsA a (e - b) (evd (M.2.1 9) p b e) := ⟨_, rfl⟩
      obtain ⟨dv, hdv⟩ : ∃ dv, dv = w * evd (M.2.1 9) p b e / (e - b) := ⟨_, rfl⟩
      have hls2 : ls ≤ a := by rw [hls]; exact Nat.sub_le _ _
      have hq := up_le (a := a) (L := e - b) (g := evd (M.2.1 9) p b e) (by omega)
      have hwg : w * evd (M.2.1 9) p b e ≤ 128000 * 2000 := Nat.mul_le_mul g2 (by omega)
      have hdv2 : dv ≤ w * evd (M.2.1 9) p b e := by rw [hdv]; exact Nat.div_le_self _ _
      have kc := c_lessen (n := n) hR h4 hf31 hp g3 (by omega) g5 g2 hg b1 r1 g6 g7 g8 g9 g10 b2 r2
      rw [← hls, ← hdv] at kc
      have kl : f_X9_lessBy n Mz (nI f) = some (nI ls) := by
        rw [m_lessBy (M := Mz) (by rw [h9]; exact hR) hNP (by omega) hf31 g1 g3 g4 g5 (by rw [h9]; exact g6) (by rw [h9]; exact g8) (by rw [h9]; exact g9) (by rw [h9]; exact g10), h9, pk_sub hq, hls]
        rfl
      have ke : f_X9_evidenceFor n Mz (nI f) = some (nI (evd (M.2.1 9) p b e)) := by
        rw [m_evidence (M := Mz) (by rw [h9]; exact hR) hNP (by omega) hf31 g1 g3 g4 (by rw [h9]; exact g6) (by rw [h9]; exact g8) (by rw [h9]; exact g9), h9]
      have kln : f_X9_lengthOf n Mz (nI f) = some (nI (e - b)) := by
        unfold f_X9_lengthOf
        rw [mF4 hf31, ebnd, mF3 hf31, ebnd, h9, g9, g8, pk_sub (show b ≤ e by omega)]
      have hRR3 : RR P NP D T LC CC FC (lessC no (f % 40) p (a - ls) (bar - ls) (rec - dv)) ((sA Mz 9 (lessM (M.2.1 9) (f % 40) p (a - ls) (bar - ls) (rec - dv))).2.1 9) := by
        rw [sA_get]
        refine hRR.upd0 (hR.less h40 h4 hp (by omega) (by omega) (by omega)) rfl rfl ?_ ?_ rfl
        · unfold lessM
          rw [upd_n (by omega), upd_n (by omega), upd_n (by omega), upd_n (by omega)]
        · unfold lessM
          rw [upd_n (by omega), upd_n (by omega), upd_n (by omega), upd_n (by omega)]
      rw [hMz] at hRR3
      obtain ⟨pa', M4, d1, d2, d3, d4⟩ := h.done (n := n) ((EqM.told M _).tr (EqM.told _ _)) y2 (Fr.row _ _) hRR3 (Nat.le_refl D) hn (nI ls)
      rw [← hMz] at d2
      have w5 : upd (upd (M.2.1 9) (1022 + 8 * (f % 40) + 5) (nI (a - ls))) (1022 + 8 * (f % 40) + 6) 1 (10 + 6 * p + 1) = nI bar := by rw [upd_n (by omega), upd_n (by omega), b2]
      have w6 : upd (upd (upd (M.2.1 9) (1022 + 8 * (f % 40) + 5) (nI (a - ls))) (1022 + 8 * (f % 40) + 6) 1) (10 + 6 * p + 1) (nI (bar - ls)) (10 + 6 * p) = nI rec := by rw [upd_n (by omega), upd_n (by omega), upd_n (by omega), r2]
      rw [if_pos rfl, if_pos rfl, d1, ebnd, c_evidence hR hNP (by omega) h4 hf31 g1 g3 g4 g6 g8 g9, ebnd, kc, ebnd2, ebnd4, if_pos rfl, ho0, y1, ebnd, ← hMz]
      rw [mF0 hf31, ebnd, h9, g6, kl, ebnd, mF2 hf31, ebnd, h9, g7, ke, ebnd, kln, ebnd, eoN (nI_ne0 (by omega) (by omega)), eLet, pk_mul, pk_div (by omega) (by omega) (by omega), ← hdv]
      rw [m_fa hf31, ebnd, mF5 hf31, ebnd, h9, g10, pk_sub hls2, nI_p5, wz (by omega), ebnd, nI_p6, wz (by omega), sA_get, sA_sA]
      rw [mP1 hp, ebnd, sA_get, w5, gr0, max0 (by omega) (by omega), ebnd, mS1 hp, ebnd, sA_get, sA_sA, mP0 hp, ebnd, sA_get, w6, gr0, max0 (by omega) (by omega), ebnd, mS0 hp, ebnd, sA_get, sA_sA]
      rw [show upd (upd (upd (upd (M.2.1 9) (1022 + 8 * (f % 40) + 5) (nI (a - ls))) (1022 + 8 * (f % 40) + 6) 1) (10 + 6 * p + 1) (nI (bar - ls))) (10 + 6 * p) (nI (rec - dv)) = lessM (M.2.1 9) (f % 40) p (a - ls) (bar - ls) (rec - dv) from rfl, d2, ebnd2]
      exact LKc_ok (p3 := p3) rfl rfl d3 (d4.trans rfl)
/-- the relation, where the court, the past, the saved court are other ones -/
theorem RXx.redo {M' no' x' : OS} {pa' : PS} {so' : Option OS} {D' T' LC' CC' FC' : Nat} (h : RXx P NP E Bs F Pt Ap T LC CC FC D x inp ou ru no rd pa M so) (hi : ∀ j, j ≠ 0 → j ≠ 15 → j ≠ 16 → M'.1 j = M.1 j) (ha : ∀ j, j ≠ 9 → j ≠ 13 → j ≠ 14 → M'.2.1 j = M.2.1 j) (h22 : M'.2.2 = M.2.2) (hr : RR P NP D' T' LC' CC' FC' no' (M'.2.1 9)) (hp : PaR P NP D' pa' M') (hs : SvR P NP D' x' so' M') : RX D' x' inp ou ru no' rd pa' M' so' := by
  obtain ⟨h1, h2, h3, h4, h5, h6, h7, h8, h9, h10⟩ := h
  refine ⟨P, NP, E, Bs, F, Pt, Ap, T', LC', CC', FC', h1.fr fun j b1 b2 => hi j (by omega) (by omega) (by omega), ?_, hr, ?_, ?_, ?_, hp, hs, ?_, ?_⟩
  · obtain ⟨ln, z, q⟩ := h2
    refine ⟨ln, z, fun p hp => ?_⟩
    rw [h22]
    exact q p hp
  · obtain ⟨z, b1, b2, b3, b4⟩ := h4
    exact ⟨z, b1, b2, by rw [hi 23 (by decide) (by decide) (by decide)]; exact b3, by rw [ha 22 (by decide) (by decide) (by decide)]; exact b4⟩
  · obtain ⟨z, b1, b2, b3, b4⟩ := h5
    exact ⟨z, b1, b2, by rw [hi 40 (by decide) (by decide) (by decide)]; exact b3, by rw [ha 39 (by decide) (by decide) (by decide)]; exact b4⟩
  · rw [hi 31 (by decide) (by decide) (by decide), hi 32 (by decide) (by decide) (by decide)]
    exact h6
  · rw [hi 17 (by decide) (by decide) (by decide), h9]
  · rw [hi 19 (by decide) (by decide) (by decide), h10]
theorem undo_loop (M : OS) {k : Nat} (h15 : M.1 15 = nI k) (hk : k < 8) (hn : 13000 < n) : ∃ g, l_X9_undo_33 n n M 0 = some (sA M 9 g, nI k) ∧ (∀ j, j < 1846 → g j = M.2.1 14 (1846 * k + j)) := by
  have hh := loop_inv (l := fun N (s : Nat → Int32) i => l_X9_undo_33 n N (sA M 9 s) i) (fun i s => ∀ j, j < i → s j = M.2.1 14 (1846 * k + j)) (Q := fun r => ∃ g, r = (sA M 9 g, nI k) ∧ (∀ j, j < 1846 → g j = M.2.1 14 (1846 * k + j))) (K := 1846) (fun N s hs => ?_) (fun N s i hi hs => Or.inl ?_) 0 n (M.2.1 9) (by omega) (by omega) (fun j hj => absurd hj (by omega))
  · obtain ⟨r, h1, g, h2, h3⟩ := hh
    refine ⟨g, ?_, h3⟩
    rw [← h2, ← h1]
    have : sA M 9 (M.2.1 9) = M := by
      unfold sA
      refine Prod.ext rfl (Prod.ext ?_ rfl)
      funext j
      show (if j = 9 then M.2.1 9 else M.2.1 j) = M.2.1 j
      split
      · next e => rw [e]
      · rfl
    show _ = l_X9_undo_33 n n (sA M 9 (M.2.1 9)) (nI 0)
    rw [this]
    rfl
  · refine ⟨_, ?_, s, rfl, hs⟩
    show s_X9_undo_33 n _ (sA M 9 s) (nI 1846) = _
    unfold s_X9_undo_33
    rw [if_pos (show (1846 : Int32) ≤ nI 1846 from Int32.le_refl (1846 : Int32)), sA_1, h15]
  · refine ⟨upd s i (M.2.1 14 (1846 * k + i)), fun j hj => ?_, ?_⟩
    · by_cases e : j = i
      · subst e
        rw [upd_s]
      · rw [upd_n e]
        exact hs j (by omega)
    · have ix : (1846 : Int32) * nI k + nI i = nI (1846 * k + i) := by
        rw [show (1846 : Int32) = nI 1846 from rfl, pk_mul, nI_add]
      show s_X9_undo_33 n (l_X9_undo_33 n N) (sA M 9 s) (nI i) = _
      unfold s_X9_undo_33
      rw [if_neg (show ¬ (1846 : Int32) ≤ nI i from nI_ge (a := i) (b := 1846) hi (by decide)), sA_1, h15, ix, egN (by omega) (by decide), eLet, nI_clamp (by omega), egN hi (by decide), eLet, nI_clamp (by omega), eLet, nI_1, sA_get, sA_sA, sA_o (show (14 : Nat) ≠ 9 by decide)]
theorem lk_undo (h : RXx P NP E Bs F Pt Ap T LC CC FC D x inp ou ru no rd pa M so) (hn : 13000 < n) : LKc D x inp ou ru rd M so (f_L_undo n sv x no pa 1 p3) (f_X9_undo n M) := by
  obtain ⟨h1, h2, h3, h4, h5, h6, h7, h8, h9, h10⟩ := id h
  obtain ⟨nx, k, a1, a2, a3, a4, a5, a6, a7⟩ := id h7
  unfold f_L_undo f_X8_undo f_X9_undo
  rw [a4, a5]
  by_cases h0 : k = 0
  · subst h0
    rw [if_pos (show nI 0 = (0 : Int32) from rfl), if_pos (show nI 0 ≤ (0 : Int32) from Int32.le_refl (0 : Int32))]
    exact LKc_no (p3 := p3) (k := 1) h (Nat.le_refl D) rfl (by decide) rfl (EqM.told M 1) rfl
  · obtain ⟨k1, rfl⟩ : ∃ k1, k = k1 + 1 := ⟨k - 1, by omega⟩
    have e1 : f_J9_floorMod_7cf53 0 (pa.1 1 - (1 : Int32)) (8 : Int32) = some (nI ((nx + 7) % 8)) := by
      rw [a3]
      exact fm_dn a1
    have hlt : (nx + 7) % 8 < pa.2.1 := by
      rcases a6 with q | q
      · omega
      · omega
    have hS := a7 k1 (by omega)
    rw [show (nx + 8 - (k1 + 1) + k1) % 8 = (nx + 7) % 8 by omega] at hS
    obtain ⟨T1, LC1, CC1, FC1, hRR1⟩ := hS
    obtain ⟨y, y1, y2⟩ := c_copy (n := n) no (pa.2.2 ((nx + 7) % 8))
    have hc : f_X3_bringBack n pa no = some (y, (upd (upd pa.1 1 (nI ((nx + 7) % 8))) 2 (nI k1), pa.2)) := by
      unfold f_X3_bringBack
      rw [e1, ebnd, eLet, eLet, show (pI pa 1 (nI ((nx + 7) % 8))).1 2 = nI (k1 + 1) from a4, nI_pred]
      show gI 8 (nI ((nx + 7) % 8)) (if (nI ((nx + 7) % 8)).toNatClampNeg < pa.2.1 then bnd (f_X2_copyFrom n no (pa.2.2 (nI ((nx + 7) % 8)).toNatClampNeg)) (fun (y : OS) => some (y, _)) else _) = _
      rw [egN (Nat.mod_lt _ (by decide)) (by decide), nI_clamp (by omega), if_pos hlt, y1, ebnd]
      rfl
    obtain ⟨g, g1, g2⟩ := undo_loop (n := n) (sI (sI M 0 0) 15 (nI k1)) (k := k1) rfl (by omega) hn
    have hm : j_X9_undo_13 n M 1 = some (sA (sI (sI M 0 0) 15 (nI k1)) 9 g, nI k1) := by
      unfold j_X9_undo_13
      rw [m_is1, ebnd2, if_neg (show ¬ (1 : Int32) = 0 from by decide), eLet, show (sI M 0 0).1 15 = nI (k1 + 1) from a5, nI_pred, g1]
    rw [if_neg (show ¬ nI (k1 + 1) = (0 : Int32) from nI_ne0 (by omega) (by omega)), if_neg (nI_nle (by omega) (by omega)), hm, hc, ebnd2, ebnd4, if_pos rfl, ho0]
    refine LKc_ok (p3 := p3) rfl rfl (h.redo (fun j b1 b2 b3 => ?_) (fun j b1 b2 b3 => ?_) rfl (T' := T1) (LC' := LC1) (CC' := CC1) (FC' := FC1) ?_ ?_ ?_) rfl
    · rw [sA_1, sI_o b2, sI_o b1]
    · rw [sA_o b1]
      rfl
    · rw [sA_get]
      exact hRR1.cpy y2 fun i hi => g2 i hi
    · refine ⟨(nx + 7) % 8, k1, Nat.mod_lt _ (by decide), by omega, rfl, rfl, rfl, ?_, fun i hi => ?_⟩
      · show pa.2.1 = 8 ∨ _
        rcases a6 with q | q
        · exact Or.inl q
        · exact Or.inr ⟨q.1, by show (nx + 7) % 8 ≤ pa.2.1; omega, by omega⟩
      · have hi2 := a7 i (by omega)
        rw [show (nx + 8 - (k1 + 1) + i) % 8 = ((nx + 7) % 8 + 8 - k1 + i) % 8 by omega] at hi2
        exact hi2
    · exact h8
theorem lk_save (h : RXx P NP E Bs F Pt Ap T LC CC FC D x inp ou ru no rd pa M so) (hn : 13000 < n) : ∃ x' s' r M', f_X8_saveState n x no so = some (x', s', r) ∧ f_X9_saveState n M = some (M', r) ∧ RX D x' inp ou ru no rd pa M' (some s') := by
  obtain ⟨h1, h2, h3, h4, h5, h6, h7, h8, h9, h10⟩ := id h
  have hT := h3.1.time
  obtain ⟨y, y1, y2⟩ := c_copy (n := n) (so.getD zOS) no
  obtain ⟨z, z1, z2⟩ := m_copies (n := n) (by omega) ((sI M 0 0).2.1 9) ((sI M 0 0).2.1 13)
  refine ⟨sI x 8 1, y, nI T, sI (sA (sI M 0 0) 13 z) 16 1, ?_, ?_, h.redo (fun j b1 b2 b3 => ?_) (fun j b1 b2 b3 => ?_) rfl (T' := T) (LC' := LC) (CC' := CC) (FC' := FC) h3 ?_ ⟨true, rfl, rfl, fun _ => ⟨y, rfl, T, LC, CC, FC, h3.cpy y2 fun i hi => z2 i hi⟩⟩⟩
  · unfold f_X8_saveState
    rw [y1, ebnd, hT.2.1]
  · unfold f_X9_saveState
    rw [eLet, z1, ebnd, eLet, eLet, gz0, show (sI (sA (sI M 0 0) 13 z) 16 1).2.1 9 0 = nI T from hT.1]
  · rw [sI_o b3, sA_1, sI_o b1]
  · rw [sI_2, sA_o b2]
    rfl
  · exact h7
theorem lk_restore (h : RXx P NP E Bs F Pt Ap T LC CC FC D x inp ou ru no rd pa M so) (hn : 13000 < n) : LKc D x inp ou ru rd M so (f_L_restoreState n x no pa so p3) (f_X9_restoreState n M) := by
  obtain ⟨h1, h2, h3, h4, h5, h6, h7, h8, h9, h10⟩ := id h
  obtain ⟨nx, k, a1, a2, a3, a4, a5, a6, a7⟩ := id h7
  obtain ⟨b, b1, b2, b3⟩ := id h8
  unfold f_L_restoreState f_X8_restoreState f_X9_restoreState
  rw [b1, b2, m_is, ebnd2, ifz, ifz]
  cases b with
  | false => exact LKc_no (p3 := p3) (k := 1) h (Nat.le_refl D) rfl (by decide) rfl (EqM.told M 1) rfl
  | true =>
    obtain ⟨c0, hc0, T1, LC1, CC1, FC1, hRR1⟩ := b3 rfl
    have hT := hRR1.1.time
    subst hc0
    obtain ⟨y, y1, y2⟩ := c_copy (n := n) no c0
    obtain ⟨z, z1, z2⟩ := m_copies (n := n) (by omega) ((sI M 0 (bI (!true))).2.1 13) ((sI M 0 (bI (!true))).2.1 9)
    have hy0 : y.1 0 = nI T1 := by rw [y2.1 0 (by omega), hT.2.1]
    have hz0 : z 0 = nI T1 := by
      rw [z2 0 (by omega)]
      exact hT.1
    have hm : bnd (f_X9_copies n 1846 ((sI M 0 (bI (!true))).2.1 13) 1846 ((sI M 0 (bI (!true))).2.1 9)) (fun (y_3 : Nat → Int32) => Let (sA (sI M 0 (bI (!true))) 9 y_3) (fun th_4 : OS => Let (sI th_4 15 (0 : Int32)) (fun th_5 : OS => gI 1846 (0 : Int32) (Let ((th_5.2.1 9) (0 : Int32).toNatClampNeg) (fun x_6 : Int32 => some (th_5, x_6)))))) = some (sI (sA (sI M 0 (bI (!true))) 9 z) 15 0, nI T1) := by
      rw [z1, ebnd, eLet, eLet, gz0, sI_2, sA_get, hz0]
    rw [if_pos rfl, if_pos rfl, hm]
    show LKc D x inp ou ru rd M (some c0) (bnd4 (bnd (f_X2_copyFrom n no c0) _) _) _
    rw [y1, ebnd]
    unfold f_X3_forget
    rw [eLet, ebnd, ebnd4, if_pos rfl, hy0]
    refine LKc_ok (p3 := p3) rfl rfl (h.redo (fun j q1 q2 q3 => ?_) (fun j q1 q2 q3 => ?_) rfl (T' := T1) (LC' := LC1) (CC' := CC1) (FC' := FC1) ?_ ?_ ?_) rfl
    · rw [sI_o q2, sA_1, sI_o q1]
    · rw [sI_2, sA_o q1]
      rfl
    · rw [sI_2, sA_get]
      exact hRR1.cpy y2 fun i hi => z2 i hi
    · refine ⟨nx, 0, a1, by omega, a3, rfl, rfl, ?_, fun i hi => absurd hi (by omega)⟩
      show pa.2.1 = 8 ∨ _
      rcases a6 with q | q
      · exact Or.inl q
      · exact Or.inr ⟨q.1, q.2.1, by omega⟩
    · exact ⟨true, b1, b2, fun _ => ⟨c0, rfl, T1, LC1, CC1, FC1, hRR1⟩⟩
end CHG3
