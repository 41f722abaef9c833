/-! what is kept of the past: the class's ring of courts, the model's rows -/
section KEEP
variable {P NP D K T LC CC FC E Bs F Pt Ap n : Nat} {c x inp ou ru no rd M : OS} {pa : PS} {so : Option OS}
def RXx (P NP E Bs F Pt Ap T LC CC FC D : Nat) (x inp ou ru no rd : OS) (pa : PS) (M : OS) (so : Option OS) : Prop := Ru P NP E Bs F Pt Ap ru M ∧ Nm NP ru M ∧ RR P NP D T LC CC FC no (M.2.1 9) ∧ InR inp M ∧ OuR ou M ∧ (rd.1 3 = M.1 31 ∧ rd.1 4 = M.1 32) ∧ PaR P NP D pa M ∧ SvR P NP D x so M ∧ M.1 17 = -1 ∧ M.1 19 = -1
theorem RXx.rx (h : RXx P NP E Bs F Pt Ap T LC CC FC D x inp ou ru no rd pa M so) : RX D x inp ou ru no rd pa M so := ⟨P, NP, E, Bs, F, Pt, Ap, T, LC, CC, FC, h⟩
/-- the row blocks moved down by one -/
theorem done_shift (M : OS) (v : Int32) (h15 : M.1 15 = 8) (hn : 13000 < n) : ∃ h, l_X9_done_11 n v n M 0 = j_X9_done_50 n v (sI (sA M 14 h) 15 (8 - 1)) ∧ (∀ j, j < 12922 → h j = M.2.1 14 (j + 1846)) := by
  have hh := loop_inv (l := fun N (s : Nat → Int32) i => some (l_X9_done_11 n v N (sA M 14 s) i)) (fun i s => (∀ j, j < i → s j = M.2.1 14 (j + 1846)) ∧ ∀ j, i ≤ j → s j = M.2.1 14 j) (Q := fun r => ∃ h, r = j_X9_done_50 n v (sI (sA M 14 h) 15 (8 - 1)) ∧ (∀ j, j < 12922 → h j = M.2.1 14 (j + 1846))) (K := 12922) (fun N s hs => ?_) (fun N s i hi hs => Or.inl ?_) 0 n (M.2.1 14) (by omega) (by omega) ⟨fun j hj => absurd hj (by omega), fun _ _ => rfl⟩
  · obtain ⟨r, h1, h, h2, h3⟩ := hh
    refine ⟨h, ?_, h3⟩
    rw [← h2, ← Option.some.inj h1]
    congr 1
    have : sA M 14 (M.2.1 14) = M := by
      unfold sA
      refine Prod.ext rfl (Prod.ext ?_ rfl)
      funext j
      show (if j = 14 then M.2.1 14 else M.2.1 j) = M.2.1 j
      split
      · next e => rw [e]
      · rfl
    rw [this]
  · refine ⟨_, rfl, s, ?_, hs.1⟩
    show s_X9_done_11 n v _ (sA M 14 s) (nI 12922) = _
    unfold s_X9_done_11
    rw [if_pos (show (12922 : Int32) ≤ nI 12922 from Int32.le_refl (12922 : Int32)), eLet, sA_1, h15]
  · refine ⟨upd s i (s (i + 1846)), ⟨fun j hj => ?_, fun j hj => ?_⟩, ?_⟩
    · by_cases e : j = i
      · subst e
        rw [upd_s, hs.2 _ (by omega)]
      · rw [upd_n e]
        exact hs.1 j (by omega)
    · rw [upd_n (by omega)]
      exact hs.2 j (by omega)
    · show some (s_X9_done_11 n v (l_X9_done_11 n v N) (sA M 14 s) (nI i)) = _
      unfold s_X9_done_11
      rw [if_neg (show ¬ (12922 : Int32) ≤ nI i from nI_ge (a := i) (b := 12922) hi (by decide)), show nI i + (1846 : Int32) = nI (i + 1846) from nI_add i 1846, egN (by omega) (by decide), eLet, nI_clamp (by omega), egN (by omega) (by decide), eLet, nI_clamp (by omega), eLet, nI_1, sA_get, sA_sA]
theorem done_lay (M : OS) (v : Int32) {k : Nat} (h15 : M.1 15 = nI k) (hk : k < 8) (hn : 13000 < n) : ∃ h, j_X9_done_50 n v M = some (sI (sA M 14 h) 15 (nI (k + 1)), v) ∧ (∀ j, j < 1846 → h (1846 * k + j) = M.2.1 11 j) ∧ (∀ j, j < 1846 * k → h j = M.2.1 14 j) := by
  have hh := loop_inv (l := fun N (s : Nat → Int32) i => l_X9_done_52 n v N (sA M 14 s) i) (fun i s => (∀ j, j < i → s (1846 * k + j) = M.2.1 11 j) ∧ ∀ j, j < 1846 * k → s j = M.2.1 14 j) (Q := fun r => ∃ h, r = (sI (sA M 14 h) 15 (nI (k + 1)), v) ∧ (∀ j, j < 1846 → h (1846 * k + j) = M.2.1 11 j) ∧ (∀ j, j < 1846 * k → h j = M.2.1 14 j)) (K := 1846) (fun N s hs => ?_) (fun N s i hi hs => Or.inl ?_) 0 n (M.2.1 14) (by omega) (by omega) ⟨fun j hj => absurd hj (by omega), fun _ _ => rfl⟩
  · obtain ⟨r, h1, h, h2, h3⟩ := hh
    refine ⟨h, ?_, h3⟩
    rw [← h2, ← h1]
    unfold j_X9_done_50
    have : sA M 14 (M.2.1 14) = M := by
      unfold sA
      refine Prod.ext rfl (Prod.ext ?_ rfl)
      funext j
      show (if j = 14 then M.2.1 14 else M.2.1 j) = M.2.1 j
      split
      · next e => rw [e]
      · rfl
    show _ = l_X9_done_52 n v n (sA M 14 (M.2.1 14)) (nI 0)
    rw [this]
    rfl
  · refine ⟨_, ?_, s, rfl, hs⟩
    show s_X9_done_52 n v _ (sA M 14 s) (nI 1846) = _
    unfold s_X9_done_52
    rw [if_pos (show (1846 : Int32) ≤ nI 1846 from Int32.le_refl (1846 : Int32)), eLet, sA_1, h15, nI_1]
  · refine ⟨upd s (1846 * k + i) (M.2.1 11 i), ⟨fun j hj => ?_, fun j hj => ?_⟩, ?_⟩
    · by_cases e : j = i
      · subst e
        rw [upd_s]
      · rw [upd_n (by omega)]
        exact hs.1 j (by omega)
    · rw [upd_n (by omega)]
      exact hs.2 j hj
    · have ix : (1846 : Int32) * nI k + nI i = nI (1846 * k + i) := by
        rw [show (1846 : Int32) = nI 1846 from rfl, pk_mul, nI_add]
      show s_X9_done_52 n v (l_X9_done_52 n v N) (sA M 14 s) (nI i) = _
      unfold s_X9_done_52
      rw [if_neg (show ¬ (1846 : Int32) ≤ nI i from nI_ge (a := i) (b := 1846) hi (by decide)), egN hi (by decide), eLet, nI_clamp (by omega), sA_1, h15, ix, egN (by omega) (by decide), eLet, nI_clamp (by omega), eLet, nI_1, sA_get, sA_sA, sA_o (show (11 : Nat) ≠ 14 by decide)]
/-- the model lays the row that was by the past rows -/
theorem m_done (M : OS) (v : Int32) {k : Nat} (h15 : M.1 15 = nI k) (hk : k ≤ 8) (hn : 13000 < n) : ∃ h, f_X9_done n M v = some (sI (sA M 14 h) 15 (nI (min (k + 1) 8)), v) ∧ (k < 8 → (∀ j, j < 1846 → h (1846 * k + j) = M.2.1 11 j) ∧ (∀ j, j < 1846 * k → h j = M.2.1 14 j)) ∧ (k = 8 → (∀ j, j < 1846 → h (1846 * 7 + j) = M.2.1 11 j) ∧ (∀ j, j < 1846 * 7 → h j = M.2.1 14 (j + 1846))) := by
  unfold f_X9_done
  by_cases h8 : k = 8
  · subst h8
    rw [if_pos (show M.1 15 = (8 : Int32) from h15)]
    obtain ⟨h, h1, h2⟩ := done_shift (n := n) M v h15 hn
    obtain ⟨g, g1, g2, g3⟩ := done_lay (n := n) (sI (sA M 14 h) 15 (8 - 1)) v (k := 7) rfl (by omega) hn
    refine ⟨g, ?_, fun z => absurd z (by omega), fun _ => ⟨g2, fun j hj => ?_⟩⟩
    · rw [h1, g1]
      congr 2
      unfold sI sA
      refine Prod.ext ?_ (Prod.ext ?_ rfl)
      · funext j
        show (if j = 15 then nI (7 + 1) else (if j = 15 then (8 - 1 : Int32) else M.1 j)) = if j = 15 then nI (min (8 + 1) 8) else M.1 j
        by_cases e : j = 15
        · rw [if_pos e, if_pos e]
          rfl
        · rw [if_neg e, if_neg e, if_neg e]
      · funext j
        show (if j = 14 then g else (if j = 14 then h else M.2.1 j)) = if j = 14 then g else M.2.1 j
        by_cases e : j = 14
        · rw [if_pos e, if_pos e]
        · rw [if_neg e, if_neg e, if_neg e]
    · rw [g3 j hj, sI_2, sA_get, h2 j (by omega)]
  · have h15' : ¬ M.1 15 = (8 : Int32) := by
      rw [h15]
      exact fun z => h8 (nI_inj (b := 8) (by omega) (by decide) z)
    rw [if_neg h15']
    obtain ⟨g, g1, g2, g3⟩ := done_lay (n := n) M v h15 (by omega) hn
    refine ⟨g, ?_, fun _ => ⟨g2, g3⟩, fun z => absurd z h8⟩
    rw [g1, Nat.min_eq_left (by omega)]
theorem fm_up {n nx : Nat} (h : nx < 8) : f_J9_floorMod_7cf53 n (nI nx + (1 : Int32)) (8 : Int32) = some (nI ((nx + 1) % 8)) := by
  have q : nx = 0 ∨ nx = 1 ∨ nx = 2 ∨ nx = 3 ∨ nx = 4 ∨ nx = 5 ∨ nx = 6 ∨ nx = 7 := by omega
  unfold f_J9_floorMod_7cf53
  rcases q with rfl | rfl | rfl | rfl | rfl | rfl | rfl | rfl <;> decide +kernel
theorem fm_dn {n nx : Nat} (h : nx < 8) : f_J9_floorMod_7cf53 n (nI nx - (1 : Int32)) (8 : Int32) = some (nI ((nx + 7) % 8)) := by
  have q : nx = 0 ∨ nx = 1 ∨ nx = 2 ∨ nx = 3 ∨ nx = 4 ∨ nx = 5 ∨ nx = 6 ∨ nx = 7 := by omega
  unfold f_J9_floorMod_7cf53
  rcases q with rfl | rfl | rfl | rfl | rfl | rfl | rfl | rfl <;> decide +kernel
theorem c_keep (hp : PaR P NP D pa M) (hS : Snap P NP D no (M.2.1 9)) {M2 : OS} {h : Nat → Int32} {k : Nat} (hk : M.1 15 = nI k) (hk8 : k ≤ 8) (h14 : M2.2.1 14 = h) (h15 : M2.1 15 = nI (min (k + 1) 8)) (h1 : k < 8 → (∀ j, j < 1846 → h (1846 * k + j) = M.2.1 9 j) ∧ (∀ j, j < 1846 * k → h j = M.2.1 14 j)) (h2 : k = 8 → (∀ j, j < 1846 → h (1846 * 7 + j) = M.2.1 9 j) ∧ (∀ j, j < 1846 * 7 → h j = M.2.1 14 (j + 1846))) : ∃ pa', f_X3_keep n pa no = some pa' ∧ PaR P NP D pa' M2 := by
  obtain ⟨nx, k', a1, a2, a3, a4, a5, a6, a7⟩ := hp
  have hkk : k' = k := nI_inj (by omega) (by omega) (a5.symm.trans hk)
  subst hkk
  obtain ⟨T0, LC0, CC0, FC0, hRR⟩ := hS
  have fin : ∀ (L : Nat) (y z : OS), f_X2_copyFrom n z no = some y → Cpy no y → (L = 8 ∨ (L < 8 ∧ nx + 1 ≤ L ∧ k' ≤ nx)) → ∃ pa', bnd (f_X2_copyFrom n z no) (fun (y : OS) => f_X3_end (pa.1, (L, updC pa.2.2 nx y))) = some pa' ∧ PaR P NP D pa' M2 := fun L y z y1 y2 hL => by
    refine ⟨(fun j => if j = 2 then nI (min (k' + 1) 8) else if j = 1 then nI ((nx + 1) % 8) else pa.1 j, (L, updC pa.2.2 nx y)), ?_, (nx + 1) % 8, min (k' + 1) 8, Nat.mod_lt _ (by decide), by omega, rfl, rfl, h15, ?_, ?_⟩
    · rw [y1, ebnd]
      unfold f_X3_end
      have e1 : f_J9_floorMod_7cf53 0 (pa.1 1 + (1 : Int32)) (8 : Int32) = some (nI ((nx + 1) % 8)) := by
        rw [a3]
        exact fm_up a1
      have e2 : (if pa.1 2 + (1 : Int32) < (8 : Int32) then pa.1 2 + (1 : Int32) else (8 : Int32)) = nI (min (k' + 1) 8) := by
        rw [a4, nI_1]
        exact minI (b := 8) (by omega) (by decide)
      show bnd (f_J9_floorMod_7cf53 0 (pa.1 1 + (1 : Int32)) (8 : Int32)) _ = _
      rw [e1, ebnd, eLet, eLet]
      show some (pI (pI (pa.1, (L, updC pa.2.2 nx y)) 1 (nI ((nx + 1) % 8))) 2 (if pa.1 2 + 1 < 8 then pa.1 2 + 1 else 8)) = _
      rw [e2]
      rfl
    · by_cases e : nx + 1 = 8
      · rcases hL with hL | hL
        · exact Or.inl hL
        · omega
      · rw [Nat.mod_eq_of_lt (by omega)]
        rcases hL with hL | hL
        · exact Or.inl hL
        · exact Or.inr ⟨hL.1, hL.2.1, by omega⟩
    · intro i hi
      have other : ∀ i0, i0 < k' → (nx + 8 - k' + i0) % 8 ≠ nx → (∀ j, j < 1846 → h (1846 * i + j) = M.2.1 14 (1846 * i0 + j)) → ((nx + 1) % 8 + 8 - min (k' + 1) 8 + i) % 8 = (nx + 8 - k' + i0) % 8 → Snap P NP D (updC pa.2.2 nx y (((nx + 1) % 8 + 8 - min (k' + 1) 8 + i) % 8)) (fun j => M2.2.1 14 (1846 * i + j)) := fun i0 b1 b2 b3 b4 => by
        rw [b4]
        have e : updC pa.2.2 nx y ((nx + 8 - k' + i0) % 8) = pa.2.2 ((nx + 8 - k' + i0) % 8) := if_neg b2
        rw [e]
        refine (a7 i0 b1).row fun j hj => ?_
        show M2.2.1 14 (1846 * i + j) = M.2.1 14 (1846 * i0 + j)
        rw [h14, b3 j hj]
      have newest : (∀ j, j < 1846 → h (1846 * i + j) = M.2.1 9 j) → ((nx + 1) % 8 + 8 - min (k' + 1) 8 + i) % 8 = nx → Snap P NP D (updC pa.2.2 nx y (((nx + 1) % 8 + 8 - min (k' + 1) 8 + i) % 8)) (fun j => M2.2.1 14 (1846 * i + j)) := fun b1 b2 => by
        rw [b2]
        have e : updC pa.2.2 nx y nx = y := if_pos rfl
        rw [e]
        refine ⟨T0, LC0, CC0, FC0, hRR.cpy y2 fun j hj => ?_⟩
        show M2.2.1 14 (1846 * i + j) = M.2.1 9 j
        rw [h14, b1 j hj]
      by_cases h8 : k' = 8
      · obtain ⟨g1, g2⟩ := h2 h8
        by_cases e : i = 7
        · subst e
          exact newest g1 (by omega)
        · exact other (i + 1) (by omega) (by omega) (fun j hj => (g2 _ (by omega)).trans (congrArg (M.2.1 14) (by omega))) (by omega)
      · obtain ⟨g1, g2⟩ := h1 (by omega)
        by_cases e : i = k'
        · subst e
          exact newest g1 (by omega)
        · exact other i (by omega) (by omega) (fun j hj => g2 _ (by omega)) (by omega)
  unfold f_X3_keep
  rw [a3, egN a1 (by decide), nI_clamp (by omega)]
  by_cases hlt : nx < pa.2.1
  · rw [if_pos hlt]
    obtain ⟨y, y1, y2⟩ := c_copy (n := n) (pa.2.2 nx) no
    exact fin pa.2.1 y _ y1 y2 (by omega)
  · have heq : nx = pa.2.1 := by omega
    rw [if_neg hlt, if_pos heq]
    obtain ⟨y, y1, y2⟩ := c_copy (n := n) zOS no
    rw [← heq]
    exact fin (nx + 1) y _ y1 y2 (by omega)
end KEEP
