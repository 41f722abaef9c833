/-! pages that are freed and lent: what the loops do to a row of owners -/
def frs (v : Int32) : (j r : Nat) → (Nat → Int32) → Nat → Int32
  | 0, _, w => w
  | _ + 1, 0, w => w
  | j + 1, r + 1, w => if w j = v then frs v j r (upd w j (-1)) else frs v j (r + 1) w
def lds (v : Int32) : (d k r : Nat) → (Nat → Int32) → Nat → Int32
  | 0, _, _, w => w
  | _ + 1, _, 0, w => w
  | d + 1, k, r + 1, w => if w k = -1 then lds v d (k + 1) r (upd w k v) else lds v d (k + 1) (r + 1) w
/-- the pages of a row changed -/
def ovl (m w : Nat → Int32) : Nat → Int32 := fun i => if 538 ≤ i ∧ i < 602 then w (i - 538) else m i
def pgs (m : Nat → Int32) : Nat → Int32 := fun k => m (538 + k)
theorem ovl_out {m w : Nat → Int32} {i : Nat} (h : i < 538 ∨ 602 ≤ i) : ovl m w i = m i := if_neg (by omega)
theorem ovl_in {m w : Nat → Int32} {k : Nat} (h : k < 64) : ovl m w (538 + k) = w k := by
  unfold ovl
  rw [if_pos (by omega), Nat.add_sub_cancel_left]
theorem ovl_self (m : Nat → Int32) : ovl m (pgs m) = m := by
  funext i
  unfold ovl pgs
  split
  · rw [show 538 + (i - 538) = i by omega]
  · rfl
theorem ovl_upd {m w : Nat → Int32} {k : Nat} {x : Int32} (h : k < 64) : ovl (upd m (538 + k) x) w = ovl m w := by
  funext i
  unfold ovl
  split
  · rfl
  · exact upd_n (by omega)
theorem pgs_upd (m : Nat → Int32) (k : Nat) (x : Int32) : pgs (upd m (538 + k) x) = upd (pgs m) k x := by
  funext i
  unfold pgs upd
  by_cases h : i = k
  · rw [if_pos h, if_pos (by omega)]
  · rw [if_neg h, if_neg (by omega)]
theorem pc_pgs (m : Nat → Int32) (P : Nat) (v : Int32) : pc m P v = fb_ct (fun k => decide (pgs m k = v)) P := rfl
theorem pc_ovl {m w : Nat → Int32} {P : Nat} (hP : P ≤ 64) (v : Int32) : pc (ovl m w) P v = fb_ct (fun k => decide (w k = v)) P :=
  fb_ct_cong fun k hk => by rw [ovl_in (by omega)]
theorem ct_upd (w : Nat → Int32) (k : Nat) (x v : Int32) {P : Nat} (hk : k < P) : fb_ct (fun i => decide (upd w k x i = v)) P + (if w k = v then 1 else 0) = fb_ct (fun i => decide (w i = v)) P + (if x = v then 1 else 0) := by
  have h := fb_ct_upd (fun i => decide (w i = v)) (decide (x = v)) hk
  rw [fb_ct_cong (q := fun i => if i = k then decide (x = v) else decide (w i = v)) (fun i _ => by
    unfold upd
    by_cases e : i = k
    · simp only [if_pos e]
    · simp only [if_neg e])]
  simp only [decide_eq_true_eq] at h
  exact h
theorem frs_hi (v : Int32) : ∀ (j r : Nat) (w : Nat → Int32) (k : Nat), j ≤ k → frs v j r w k = w k
  | 0, _, _, _, _ => rfl
  | _ + 1, 0, _, _, _ => rfl
  | j + 1, r + 1, w, k, h => by
    unfold frs
    split
    · rw [frs_hi v j r _ k (by omega), upd_n (by omega)]
    · exact frs_hi v j (r + 1) w k (by omega)
theorem frs_each (v : Int32) : ∀ (j r : Nat) (w : Nat → Int32) (k : Nat), frs v j r w k = w k ∨ (w k = v ∧ frs v j r w k = -1)
  | 0, _, _, _ => Or.inl rfl
  | _ + 1, 0, _, _ => Or.inl rfl
  | j + 1, r + 1, w, k => by
    unfold frs
    split
    · rename_i hw
      by_cases e : k = j
      · subst e
        rw [frs_hi v k r _ k (Nat.le_refl _), upd_s]
        exact Or.inr ⟨hw, rfl⟩
      · have h := frs_each v j r (upd w j (-1)) k
        rw [upd_n e] at h
        exact h
    · exact frs_each v j (r + 1) w k
theorem frs_ct (v : Int32) (hv : v ≠ -1) (x : Int32) : ∀ (j r : Nat) (w : Nat → Int32) (P : Nat), j ≤ P → r ≤ fb_ct (fun i => decide (w i = v)) j →
    fb_ct (fun i => decide (frs v j r w i = x)) P + (if x = v then r else 0) = fb_ct (fun i => decide (w i = x)) P + (if x = -1 then r else 0)
  | 0, r, w, P, _, h => by
    have : r = 0 := by
      have h2 : fb_ct (fun i => decide (w i = v)) 0 = 0 := rfl
      omega
    subst this
    simp only [frs, ite_self]; rfl
  | j + 1, 0, w, P, _, h => by
    simp only [frs, ite_self]; rfl
  | j + 1, r + 1, w, P, hj, h => by
    rw [fb_ct_succ] at h
    unfold frs
    by_cases hw : w j = v
    · rw [if_pos hw]
      have h1 := frs_ct v hv x j r (upd w j (-1)) P (by omega) (by
        rw [fb_ct_cong (q := fun i => decide (w i = v)) (fun i hi => by rw [upd_n (by omega)])]
        rw [decide_eq_true hw] at h
        simp only [if_true] at h
        omega)
      have h2 := ct_upd w j (-1) x (P := P) (by omega)
      rw [hw] at h2
      by_cases hx : x = v
      · subst hx
        rw [if_pos rfl, if_neg hv] at h1 ⊢
        rw [if_pos rfl, if_neg (fun z => hv z.symm)] at h2
        omega
      · rw [if_neg hx] at h1 ⊢
        rw [if_neg (fun z => hx z.symm)] at h2
        by_cases h9 : x = -1
        · subst h9
          rw [if_pos rfl] at h1 h2 ⊢
          omega
        · rw [if_neg h9] at h1 ⊢
          rw [if_neg (fun z => h9 z.symm)] at h2
          omega
    · rw [if_neg hw]
      exact frs_ct v hv x j (r + 1) w P (by omega) (by
        rw [decide_eq_false hw] at h
        simpa using h)
theorem frs_skip (v : Int32) (P : Nat) : ∀ (e r : Nat) (w : Nat → Int32), (∀ k, P ≤ k → k < P + e → w k ≠ v) → frs v (P + e) r w = frs v P r w
  | 0, _, _, _ => rfl
  | e + 1, 0, w, _ => by
    cases P with
    | zero => rfl
    | succ P => rfl
  | e + 1, r + 1, w, h => by
    show frs v (P + e + 1) (r + 1) w = _
    rw [frs, if_neg (h (P + e) (by omega) (by omega))]
    exact frs_skip v P e (r + 1) w (fun k h1 h2 => h k h1 (by omega))
theorem frs_cong (v : Int32) : ∀ (j r : Nat) (w w2 : Nat → Int32), (∀ k, k < j → w k = w2 k) → ∀ k, k < j → frs v j r w k = frs v j r w2 k
  | 0, _, _, _, _, _, h => by omega
  | j + 1, 0, w, w2, h, k, hk => h k hk
  | j + 1, r + 1, w, w2, h, k, hk => by
    have hj := h j (by omega)
    unfold frs
    rw [hj]
    split
    · by_cases e : k = j
      · subst e
        rw [frs_hi v k r _ k (Nat.le_refl _), frs_hi v k r _ k (Nat.le_refl _), upd_s, upd_s]
      · exact frs_cong v j r _ _ (fun i hi => by rw [upd_n (by omega), upd_n (by omega)]; exact h i (by omega)) k (by omega)
    · by_cases e : k = j
      · subst e
        rw [frs_hi v k (r + 1) _ k (Nat.le_refl _), frs_hi v k (r + 1) _ k (Nat.le_refl _), hj]
      · exact frs_cong v j (r + 1) w w2 (fun i hi => h i (by omega)) k (by omega)
theorem lds_lo (v : Int32) : ∀ (d k r : Nat) (w : Nat → Int32) (i : Nat), i < k ∨ k + d ≤ i → lds v d k r w i = w i
  | 0, _, _, _, _, _ => rfl
  | _ + 1, _, 0, _, _, _ => rfl
  | d + 1, k, r + 1, w, i, h => by
    unfold lds
    split
    · rw [lds_lo v d (k + 1) r _ i (by omega), upd_n (by omega)]
    · exact lds_lo v d (k + 1) (r + 1) w i (by omega)
theorem lds_each (v : Int32) : ∀ (d k r : Nat) (w : Nat → Int32) (i : Nat), lds v d k r w i = w i ∨ (w i = -1 ∧ lds v d k r w i = v)
  | 0, _, _, _, _ => Or.inl rfl
  | _ + 1, _, 0, _, _ => Or.inl rfl
  | d + 1, k, r + 1, w, i => by
    unfold lds
    split
    · rename_i hw
      by_cases e : i = k
      · subst e
        rw [lds_lo v d (i + 1) r _ i (by omega), upd_s]
        exact Or.inr ⟨hw, rfl⟩
      · have h := lds_each v d (k + 1) r (upd w k v) i
        rw [upd_n e] at h
        exact h
    · exact lds_each v d (k + 1) (r + 1) w i
/-- how many are free in d places from k on -/
def fre (w : Nat → Int32) (k d : Nat) : Nat := fb_ct (fun i => decide (w (k + i) = -1)) d
theorem fre_succ (w : Nat → Int32) (k d : Nat) : fre w k (d + 1) = (if w k = -1 then 1 else 0) + fre w (k + 1) d := by
  unfold fre
  have h := fb_ct_split (fun i => decide (w (k + i) = -1)) 1 d
  rw [Nat.add_comm 1 d] at h
  rw [h]
  have h1 : fb_ct (fun i => decide (w (k + i) = -1)) 1 = if w k = -1 then 1 else 0 := by
    show 0 + (if decide (w (k + 0) = -1) = true then 1 else 0) = _
    simp only [Nat.add_zero, Nat.zero_add, decide_eq_true_eq]
  rw [h1]
  congr 1
  exact fb_ct_cong fun i _ => by rw [Nat.add_assoc]
theorem fre_upd {w : Nat → Int32} {k d : Nat} {v : Int32} : fre (upd w k v) (k + 1) d = fre w (k + 1) d :=
  fb_ct_cong fun i _ => by rw [upd_n (by omega)]
theorem lds_ct (v : Int32) (hv : v ≠ -1) (x : Int32) : ∀ (d k r : Nat) (w : Nat → Int32) (P : Nat), k + d ≤ P → r ≤ fre w k d →
    fb_ct (fun i => decide (lds v d k r w i = x)) P + (if x = -1 then r else 0) = fb_ct (fun i => decide (w i = x)) P + (if x = v then r else 0)
  | 0, k, r, w, P, _, h => by
    have : r = 0 := by
      have h2 : fre w k 0 = 0 := rfl
      omega
    subst this
    simp only [lds, ite_self]; rfl
  | d + 1, k, 0, w, P, _, h => by
    simp only [lds, ite_self]; rfl
  | d + 1, k, r + 1, w, P, hj, h => by
    rw [fre_succ] at h
    unfold lds
    by_cases hw : w k = -1
    · rw [if_pos hw]
      have h1 := lds_ct v hv x d (k + 1) r (upd w k v) P (by omega) (by
        rw [fre_upd]
        rw [if_pos hw] at h
        omega)
      have h2 := ct_upd w k v x (P := P) (by omega)
      rw [hw] at h2
      by_cases hx : x = v
      · subst hx
        rw [if_pos rfl, if_neg hv] at h1 ⊢
        rw [if_pos rfl, if_neg (fun z => hv z.symm)] at h2
        omega
      · rw [if_neg hx] at h1 ⊢
        by_cases h9 : x = -1
        · subst h9
          rw [if_pos rfl] at h1 h2 ⊢
          rw [if_neg (fun z => hx z.symm)] at h2
          omega
        · rw [if_neg h9] at h1 ⊢
          rw [if_neg (fun z => h9 z.symm), if_neg (fun z => hx z.symm)] at h2
          omega
    · rw [if_neg hw]
      exact lds_ct v hv x d (k + 1) (r + 1) w P (by omega) (by
        rw [if_neg hw] at h
        omega)
theorem lds_none (v : Int32) : ∀ (d k r : Nat) (w : Nat → Int32), (∀ i, k ≤ i → i < k + d → w i ≠ -1) → lds v d k r w = w
  | 0, _, _, _, _ => rfl
  | _ + 1, _, 0, _, _ => rfl
  | d + 1, k, r + 1, w, h => by
    rw [lds, if_neg (h k (by omega) (by omega))]
    exact lds_none v d (k + 1) (r + 1) w (fun i h1 h2 => h i (by omega) (by omega))
theorem lds_skip (v : Int32) (e : Nat) : ∀ (d k r : Nat) (w : Nat → Int32), (∀ i, k + d ≤ i → i < k + d + e → w i ≠ -1) → lds v (d + e) k r w = lds v d k r w
  | 0, k, r, w, h => by
    rw [Nat.zero_add]
    exact lds_none v e k r w (fun i h1 h2 => h i (by omega) (by omega))
  | d + 1, k, 0, w, _ => by
    rw [show d + 1 + e = (d + e) + 1 by omega]
    rfl
  | d + 1, k, r + 1, w, h => by
    rw [show d + 1 + e = (d + e) + 1 by omega, lds, lds]
    split
    · exact lds_skip v e d (k + 1) r _ (fun i h1 h2 => by rw [upd_n (by omega)]; exact h i (by omega) (by omega))
    · exact lds_skip v e d (k + 1) (r + 1) w (fun i h1 h2 => h i (by omega) (by omega))
theorem lds_cong (v : Int32) : ∀ (d k r : Nat) (w w2 : Nat → Int32), (∀ i, i < k + d → w i = w2 i) → ∀ i, i < k + d → lds v d k r w i = lds v d k r w2 i
  | 0, k, r, w, w2, h, i, hi => h i hi
  | d + 1, k, 0, w, w2, h, i, hi => h i hi
  | d + 1, k, r + 1, w, w2, h, i, hi => by
    have hj := h k (by omega)
    unfold lds
    rw [hj]
    split
    · exact lds_cong v d (k + 1) r _ _ (fun a ha => by
        by_cases e : a = k
        · subst e
          rw [upd_s, upd_s]
        · rw [upd_n e, upd_n e]
          exact h a (by omega)) i (by omega)
    · exact lds_cong v d (k + 1) (r + 1) w w2 (fun a ha => h a (by omega)) i (by omega)
/-! the loops themselves -/
theorem sA_self (c : OS) (j : Nat) : sA c j (c.2.1 j) = c := by
  obtain ⟨a, b, d⟩ := c
  unfold sA
  congr 2
  funext i
  by_cases h : i = j
  · rw [if_pos h, h]
  · rw [if_neg h]
theorem sA_sA (c : OS) (j : Nat) (f g : Nat → Int32) : sA (sA c j f) j g = sA c j g := by
  unfold sA
  congr 2
  funext i
  by_cases h : i = j
  · rw [if_pos h, if_pos h]
  · show (if i = j then g else if i = j then f else c.2.1 i) = if i = j then g else c.2.1 i
    rw [if_neg h, if_neg h, if_neg h]
theorem sA_get (c : OS) (j : Nat) (f : Nat → Int32) : (sA c j f).2.1 j = f := if_pos rfl
theorem m1_lt : (nI 0 + -1 : Int32) < 0 := by decide
theorem c_rel_loop {n N : Nat} {v many : Int32} : ∀ (j r : Nat) (c : OS), j ≤ 64 → r ≤ 64 → j < N → l_X2_release_11 n v many N c (nI r) (nI j + -1) = j_X2_release_48 n v many (sA c 10 (frs v j r (c.2.1 10))) := by
  induction N with
  | zero => intro j r c _ _ h; omega
  | succ N ih =>
    intro j r c hj hr hN
    show s_X2_release_11 n v many (l_X2_release_11 n v many N) c (nI r) (nI j + -1) = _
    unfold s_X2_release_11
    cases j with
    | zero =>
      rw [if_pos m1_lt]
      show _ = j_X2_release_48 n v many (sA c 10 (c.2.1 10))
      rw [sA_self]
    | succ j =>
      rw [pk_m1, if_neg (nI_pos (by omega))]
      cases r with
      | zero =>
        rw [if_pos (show nI 0 ≤ 0 from Int32.le_refl _)]
        show _ = j_X2_release_48 n v many (sA c 10 (c.2.1 10))
        rw [sA_self]
      | succ r =>
        rw [if_neg (nI_nle (by omega) (by omega)), egN (by omega) (by decide), eLet, nI_clamp (by omega)]
        show _ = j_X2_release_48 n v many (sA c 10 (if c.2.1 10 j = v then frs v j r (upd (c.2.1 10) j (-1)) else frs v j (r + 1) (c.2.1 10)))
        by_cases hw : c.2.1 10 j = v
        · rw [if_pos hw, if_pos hw, egN (by omega) (by decide), eLet, eLet, pk_m1, eLet, ih j r _ (by omega) (by omega) (by omega), sA_get, sA_sA]
        · rw [if_neg hw, if_neg hw, eLet, ih j (r + 1) c (by omega) hr (by omega)]
theorem m_fre_loop {n N : Nat} {v : Int32} : ∀ (j r : Nat) (M : OS), j ≤ 64 → r ≤ 64 → j < N → l_X9_frees_10 n v N M (nI r) (nI j + -1) = some (sA M 9 (ovl (M.2.1 9) (frs v j r (pgs (M.2.1 9))))) := by
  induction N with
  | zero => intro j r c _ _ h; omega
  | succ N ih =>
    intro j r M hj hr hN
    show s_X9_frees_10 n v (l_X9_frees_10 n v N) M (nI r) (nI j + -1) = _
    unfold s_X9_frees_10
    cases j with
    | zero =>
      rw [if_pos m1_lt]
      show some M = some (sA M 9 (ovl (M.2.1 9) (pgs (M.2.1 9))))
      rw [ovl_self, sA_self]
    | succ j =>
      rw [pk_m1, if_neg (nI_pos (by omega))]
      cases r with
      | zero =>
        rw [if_pos (show nI 0 ≤ 0 from Int32.le_refl _)]
        show some M = some (sA M 9 (ovl (M.2.1 9) (pgs (M.2.1 9))))
        rw [ovl_self, sA_self]
      | succ r =>
        rw [if_neg (nI_nle (by omega) (by omega)), ow_ix, g18 (by omega), eLet, nI_clamp (by omega)]
        show _ = some (sA M 9 (ovl (M.2.1 9) (if M.2.1 9 (538 + j) = v then frs v j r (upd (pgs (M.2.1 9)) j (-1)) else frs v j (r + 1) (pgs (M.2.1 9)))))
        by_cases hw : M.2.1 9 (538 + j) = v
        · rw [if_pos hw, if_pos hw, g18 (by omega), eLet, eLet, nI_pred, eLet, ih j r _ (by omega) (by omega) (by omega), sA_get, sA_sA, pgs_upd, ovl_upd (by omega)]
        · rw [if_neg hw, if_neg hw, eLet, ih j (r + 1) M (by omega) hr (by omega)]
theorem c_lend_loop {n N : Nat} {v : Int32} {many : Int32} : ∀ (d k r : Nat) (c : OS), k + d = 64 → r ≤ 64 → d < N → l_X2_lend_116 n many v N c (nI r) (nI k) = j_X2_lend_160 n many (sA c 10 (lds v d k r (c.2.1 10))) v := by
  induction N with
  | zero => intro d k r c _ _ h; omega
  | succ N ih =>
    intro d k r c hj hr hN
    show s_X2_lend_116 n many v (l_X2_lend_116 n many v N) c (nI r) (nI k) = _
    unfold s_X2_lend_116
    cases d with
    | zero =>
      rw [if_pos (show (64 : Int32) ≤ nI k from nI_le (a := 64) (b := k) (by omega) (by omega))]
      show _ = j_X2_lend_160 n many (sA c 10 (c.2.1 10)) v
      rw [sA_self]
    | succ d =>
      rw [if_neg (show ¬ (64 : Int32) ≤ nI k from nI_ge (a := k) (b := 64) (by omega) (by omega))]
      cases r with
      | zero =>
        rw [if_pos (show nI 0 ≤ 0 from Int32.le_refl _)]
        show _ = j_X2_lend_160 n many (sA c 10 (c.2.1 10)) v
        rw [sA_self]
      | succ r =>
        rw [if_neg (nI_nle (by omega) (by omega)), egN (by omega) (by decide), eLet, nI_clamp (by omega)]
        show _ = j_X2_lend_160 n many (sA c 10 (if c.2.1 10 k = -1 then lds v d (k + 1) r (upd (c.2.1 10) k v) else lds v d (k + 1) (r + 1) (c.2.1 10))) v
        by_cases hw : c.2.1 10 k = -1
        · rw [if_pos hw, if_pos hw, egN (by omega) (by decide), eLet, eLet, pk_m1, eLet, nI_1, ih d (k + 1) r _ (by omega) (by omega) (by omega), sA_get, sA_sA]
        · rw [if_neg hw, if_neg hw, eLet, nI_1, ih d (k + 1) (r + 1) c (by omega) hr (by omega)]
theorem m_lend_loop {n N : Nat} {v : Int32} : ∀ (d k r : Nat) (u : Nat → Int32), k + d ≤ 64 → r ≤ fre (pgs u) k d → d < N → l_X9_lends_75 n 1846 v N u (nI r) (nI k) = some (ovl u (lds v d k r (pgs u))) := by
  induction N with
  | zero => intro d k r c _ _ h; omega
  | succ N ih =>
    intro d k r u hj hr hN
    have hle : fre (pgs u) k d ≤ d := fb_ct_le _ _
    show s_X9_lends_75 n 1846 v (l_X9_lends_75 n 1846 v N) u (nI r) (nI k) = _
    unfold s_X9_lends_75
    cases r with
    | zero =>
      rw [if_pos (show nI 0 ≤ 0 from Int32.le_refl _)]
      have e : lds v d k 0 (pgs u) = pgs u := by cases d <;> rfl
      rw [e, ovl_self]
    | succ r =>
      cases d with
      | zero =>
        have h2 : fre (pgs u) k 0 = 0 := rfl
        omega
      | succ d =>
        have h64 : r + 1 ≤ 64 := by omega
        rw [fre_succ] at hr
        rw [if_neg (nI_nle (by omega) (by omega)), ow_ix, egN (by omega) (by decide), eLet, nI_clamp (by omega)]
        show _ = some (ovl u (if u (538 + k) = -1 then lds v d (k + 1) r (upd (pgs u) k v) else lds v d (k + 1) (r + 1) (pgs u)))
        by_cases hw : u (538 + k) = -1
        · have hw2 : pgs u k = -1 := hw
          rw [if_pos hw2] at hr
          rw [if_pos hw, if_pos hw, egN (by omega) (by decide), eLet, eLet, nI_pred, eLet, nI_1, ih d (k + 1) r _ (by omega) (by rw [pgs_upd, fre_upd]; omega) (by omega), pgs_upd, ovl_upd (by omega)]
        · have hw2 : ¬ pgs u k = -1 := hw
          rw [if_neg hw2] at hr
          rw [if_neg hw, if_neg hw, eLet, nI_1, ih d (k + 1) (r + 1) u (by omega) (by omega) (by omega)]
