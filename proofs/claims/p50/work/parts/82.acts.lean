/-! what the law draws, what it does to the court, and that all stays sound -/
section P54_fm_up
variable {P NP D K T LC CC FC E Bs F Pt Ap n : Nat} {c x inp ou ru no rd M : OS} {pa : PS} {so : Option OS}
theorem fm_up {n nx : Nat} (h : nx < 8) : f_J9_floorMod_7cf53 n (nI nx + (1 : Int32)) (8 : Int32) = some (nI ((nx + 1) % 8)) := by
  have q : nx = 0 ∨ nx = 1 ∨ nx = 2 ∨ nx = 3 ∨ nx = 4 ∨ nx = 5 ∨ nx = 6 ∨ nx = 7 := by omega
  unfold f_J9_floorMod_7cf53
  rcases q with rfl | rfl | rfl | rfl | rfl | rfl | rfl | rfl <;> decide +kernel
theorem fm_dn {n nx : Nat} (h : nx < 8) : f_J9_floorMod_7cf53 n (nI nx - (1 : Int32)) (8 : Int32) = some (nI ((nx + 7) % 8)) := by
  have q : nx = 0 ∨ nx = 1 ∨ nx = 2 ∨ nx = 3 ∨ nx = 4 ∨ nx = 5 ∨ nx = 6 ∨ nx = 7 := by omega
  unfold f_J9_floorMod_7cf53
  rcases q with rfl | rfl | rfl | rfl | rfl | rfl | rfl | rfl <;> decide +kernel
end P54_fm_up
theorem and_max (y : Int32) : ∃ j, j < 2 ^ 31 ∧ y &&& (2147483647 : Int32) = nI j := by
  have h : (y &&& (2147483647 : Int32)).toBitVec.toNat < 2 ^ 31 := by
    rw [Int32.toBitVec_and, BitVec.toNat_and]
    exact Nat.lt_of_le_of_lt Nat.and_le_right (by decide)
  refine ⟨_, h, Int32.toInt_inj.mp ?_⟩
  rw [nI_toInt h]
  exact BitVec.toInt_eq_toNat_of_lt (by omega)
/-- a number that the law draws lies within its bounds -/
theorem draw_ok {n L a lo hi : Nat} {xs : Nat → Int32} (ha : a < 2 ^ 30) (hL : L ≤ 260) (hlo : lo ≤ hi) (hhi : hi ≤ 1000) : ∃ v, lo ≤ v ∧ v ≤ hi ∧ f_L_draw n L xs (nI a) (nI lo) (nI hi) = some (nI v) := by
  obtain ⟨c, hc⟩ : ∃ c, f_L_cell n L xs (nI a) = some c := by
    unfold f_L_cell
    by_cases h : (Int32.ofNat L) ≤ nI a
    · exact ⟨_, if_pos h⟩
    · have h1 : a < L := Nat.lt_of_not_le fun z => h (nI_le (a := L) (b := a) z (by omega))
      rw [if_neg h, egN h1 (by omega), eLet]
      exact ⟨_, rfl⟩
  obtain ⟨j, hj, e⟩ := and_max c
  have e1 : nI hi - nI lo + (1 : Int32) = nI (hi - lo + 1) := by rw [pk_sub hlo, nI_1]
  have hm : j % (hi - lo + 1) < hi - lo + 1 := Nat.mod_lt _ (by omega)
  refine ⟨lo + j % (hi - lo + 1), by omega, by omega, ?_⟩
  unfold f_L_draw
  rw [hc, ebnd, e1, e]
  show (if nI (hi - lo + 1) = 0 then none else some (nI lo + (nI j - nI j / nI (hi - lo + 1) * nI (hi - lo + 1)))) = _
  rw [if_neg (nI_ne0 (by omega) (by omega)), pk_rem hj (by omega) (by omega), nI_add]
/-- the shape of the courts kept -/
def PS0 (nx k : Nat) (pa : PS) : Prop := nx < 8 ∧ k ≤ 8 ∧ pa.1 1 = nI nx ∧ pa.1 2 = nI k ∧ (pa.2.1 = 8 ∨ (pa.2.1 < 8 ∧ nx ≤ pa.2.1 ∧ k ≤ nx))
theorem keep_ok {n nx k : Nat} {pa : PS} (hp : PS0 nx k pa) (no : OS) : ∃ pa', f_X3_keep n pa no = some pa' ∧ PS0 ((nx + 1) % 8) (min (k + 1) 8) pa' ∧ nx < pa'.2.1 ∧ Cpy no (pa'.2.2 nx) := by
  obtain ⟨a1, a2, a3, a4, a6⟩ := hp
  have fin : ∀ (L : Nat) (y z : OS), f_X2_copyFrom n z no = some y → Cpy no y → (L = 8 ∨ (L < 8 ∧ nx + 1 ≤ L ∧ k ≤ nx)) → ∃ pa', bnd (f_X2_copyFrom n z no) (fun (y : OS) => f_X3_end (pa.1, (L, updC pa.2.2 nx y))) = some pa' ∧ PS0 ((nx + 1) % 8) (min (k + 1) 8) pa' ∧ nx < pa'.2.1 ∧ Cpy no (pa'.2.2 nx) := fun L y z y1 y2 hL => by
    refine ⟨(fun j => if j = 2 then nI (min (k + 1) 8) else if j = 1 then nI ((nx + 1) % 8) else pa.1 j, (L, updC pa.2.2 nx y)), ?_, ⟨Nat.mod_lt _ (by decide), by omega, rfl, rfl, ?_⟩, ?_, ?_⟩
    · rw [y1, ebnd]
      unfold f_X3_end
      have e1 : f_J9_floorMod_7cf53 0 (pa.1 1 + (1 : Int32)) (8 : Int32) = some (nI ((nx + 1) % 8)) := by
        rw [a3]
        exact fm_up a1
      have e2 : (if pa.1 2 + (1 : Int32) < (8 : Int32) then pa.1 2 + (1 : Int32) else (8 : Int32)) = nI (min (k + 1) 8) := by
        rw [a4, nI_1]
        exact minI (b := 8) (by omega) (by decide)
      show bnd (f_J9_floorMod_7cf53 0 (pa.1 1 + (1 : Int32)) (8 : Int32)) _ = _
      rw [e1, ebnd, eLet, eLet]
      show some (pI (pI (pa.1, (L, updC pa.2.2 nx y)) 1 (nI ((nx + 1) % 8))) 2 (if pa.1 2 + 1 < 8 then pa.1 2 + 1 else 8)) = _
      rw [e2]
      rfl
    · show L = 8 ∨ _
      by_cases e : nx + 1 = 8
      · rcases hL with hL | hL
        · exact Or.inl hL
        · omega
      · rw [Nat.mod_eq_of_lt (by omega)]
        rcases hL with hL | hL
        · exact Or.inl hL
        · exact Or.inr ⟨hL.1, hL.2.1, by omega⟩
    · show nx < L
      omega
    · show Cpy no (updC pa.2.2 nx y nx)
      rw [show updC pa.2.2 nx y nx = y from if_pos rfl]
      exact y2
  unfold f_X3_keep
  rw [a3, egN a1 (by decide), nI_clamp (by omega)]
  by_cases hlt : nx < pa.2.1
  · rw [if_pos hlt]
    obtain ⟨y, y1, y2⟩ := c_copy (n := n) (pa.2.2 nx) no
    exact fin pa.2.1 y _ y1 y2 (by omega)
  · have heq : nx = pa.2.1 := by omega
    rw [if_neg hlt, if_pos heq]
    obtain ⟨y, y1, y2⟩ := c_copy (n := n) zOS no
    rw [← heq]
    exact fin (nx + 1) y _ y1 y2 (by omega)
/-- undo brings back the court that was kept last -/
theorem undo_ok {n nx k : Nat} {pa : PS} (hp : PS0 ((nx + 1) % 8) (k + 1) pa) (hnx : nx < 8) (hlt : nx < pa.2.1) (no : OS) : ∃ no' pa', (∀ sv x, f_X8_undo n sv x no pa = some (no', pa', nI k, 0)) ∧ PS0 nx k pa' ∧ Cpy (pa.2.2 nx) no' := by
  obtain ⟨a1, a2, a3, a4, a6⟩ := hp
  have e1 : f_J9_floorMod_7cf53 0 (pa.1 1 - (1 : Int32)) (8 : Int32) = some (nI nx) := by
    rw [a3, fm_dn a1, show ((nx + 1) % 8 + 7) % 8 = nx by omega]
  obtain ⟨y, y1, y2⟩ := c_copy (n := n) no (pa.2.2 nx)
  have hc : f_X3_bringBack n pa no = some (y, (upd (upd pa.1 1 (nI nx)) 2 (nI k), pa.2)) := by
    unfold f_X3_bringBack
    rw [e1, ebnd, eLet, eLet, show (pI pa 1 (nI nx)).1 2 = nI (k + 1) from a4, nI_pred]
    show gI 8 (nI nx) (if (nI nx).toNatClampNeg < pa.2.1 then bnd (f_X2_copyFrom n no (pa.2.2 (nI nx).toNatClampNeg)) (fun (y : OS) => some (y, _)) else _) = _
    rw [egN hnx (by decide), nI_clamp (by omega), if_pos hlt, y1, ebnd]
    rfl
  refine ⟨y, (upd (upd pa.1 1 (nI nx)) 2 (nI k), pa.2), fun sv x => ?_, ⟨hnx, by omega, rfl, rfl, ?_⟩, y2⟩
  · unfold f_X8_undo
    rw [a4, if_neg (show ¬ nI (k + 1) = (0 : Int32) from nI_ne0 (by omega) (by omega)), hc, ebnd2]
    rfl
  · show pa.2.1 = 8 ∨ _
    rcases a6 with q | ⟨q1, q2, q3⟩
    · exact Or.inl q
    · refine Or.inr ⟨q1, by show nx ≤ pa.2.1; omega, by omega⟩
section ACTS
variable {P NP T LC CC FC E Bs F Pt Ap n nx k : Nat} {no ru M x : OS} {sv : Value} {pa : PS} {m : Nat → Int32}
theorem inv_ask (h : Inv P NP CC LC FC m) (h64 : P ≤ 64) (h60 : CC < 60) (hNP : NP ≤ 8) (p g t a : Int32) : Inv P NP (CC + 1) LC FC (askM m CC p g t a) := by
  have mo : ∀ j, j ≠ 7 → (j < 602 + 7 * CC ∨ 602 + 7 * CC + 7 ≤ j) → askM m CC p g t a j = m j := fun j h7 hj => by
    unfold askM
    rw [upd_n h7, upd_n (by omega), upd_n (by omega), upd_n (by omega), upd_n (by omega), upd_n (by omega), upd_n (by omega), upd_n (by omega)]
  have n3 : askM m CC p g t a (602 + 7 * CC + 3) = 0 := by
    unfold askM
    rw [upd_n (by omega), upd_n (by omega), upd_n (by omega), upd_n (by omega), upd_s]
  have n5 : askM m CC p g t a (602 + 7 * CC + 5) = -1 := by
    unfold askM
    rw [upd_n (by omega), upd_n (by omega), upd_s]
  obtain ⟨h0, h1, h2, h3, h4, h5⟩ := h
  have pcs : ∀ v, pc (askM m CC p g t a) P v = pc m P v := fun v => pc_sm (fun i a b => mo i (by omega) (by omega)) h64 v
  refine ⟨h0, fun l a b => (pcs _).trans (h1 l a b), fun l hl => ?_, ⟨(mo 4 (by omega) (by omega)).trans h3.1, ?_⟩, fun q hq => ?_, fun p hp8 => ?_⟩
  · obtain ⟨g, t, a, b, c, d⟩ := h2 l hl
    exact ⟨g, t, (mo _ (by omega) (by omega)).trans a, (mo _ (by omega) (by omega)).trans b, by rw [pcs]; exact c, d⟩
  · rw [← h3.2]
    exact su_cong fun p hp => mo _ (by omega) (by omega)
  · by_cases e : q = CC
    · subst e
      exact Or.inr ⟨by rw [n3]; decide, n5⟩
    · rcases h4 q (by omega) with ⟨a, l, b, c, d⟩ | ⟨a, b⟩
      · exact Or.inl ⟨(mo _ (by omega) (by omega)).trans a, l, b, (mo _ (by omega) (by omega)).trans c, (mo _ (by omega) (by omega)).trans d⟩
      · exact Or.inr ⟨by rw [mo _ (by omega) (by omega)]; exact a, (mo _ (by omega) (by omega)).trans b⟩
  · obtain ⟨s, hs, e⟩ := h5 p hp8
    exact ⟨s, hs, (mo _ (by omega) (by omega)).trans e⟩
theorem inv_stall (h : Inv P NP CC LC FC m) (h64 : P ≤ 64) (h60 : CC ≤ 60) (hNP : NP ≤ 8) {p w : Nat} (hp : p < 8) (hw : w ≤ 99) : Inv P NP CC LC FC (upd m (10 + 6 * p + 2) (nI w)) := by
  obtain ⟨h0, h1, h2, h3, h4, h5⟩ := h
  have pcs : ∀ v, pc (upd m (10 + 6 * p + 2) (nI w)) P v = pc m P v := fun v => pc_sm (fun i a b => upd_n (by omega)) h64 v
  refine ⟨h0, fun l a b => (pcs _).trans (h1 l a b), fun l hl => ?_, ⟨(upd_n (by omega)).trans h3.1, ?_⟩, fun q hq => ?_, fun a ha => ?_⟩
  · obtain ⟨g, t, a, b, c, d⟩ := h2 l hl
    exact ⟨g, t, (upd_n (by omega)).trans a, (upd_n (by omega)).trans b, by rw [pcs]; exact c, d⟩
  · rw [← h3.2]
    exact su_cong fun q hq => upd_n (by omega)
  · rcases h4 q hq with ⟨a, l, b, c, d⟩ | ⟨a, b⟩
    · exact Or.inl ⟨(upd_n (by omega)).trans a, l, b, (upd_n (by omega)).trans c, (upd_n (by omega)).trans d⟩
    · exact Or.inr ⟨by rw [upd_n (by omega)]; exact a, (upd_n (by omega)).trans b⟩
  · by_cases e : a = p
    · subst e
      exact ⟨w, hw, upd_s _ _ _⟩
    · obtain ⟨s, hs, e2⟩ := h5 a ha
      exact ⟨s, hs, (upd_n (by omega)).trans e2⟩
/-- the claims that were met stay met, and the sum of those met in the meantime is the difference -/
theorem met_sum {D T2 LC2 FC2 : Nat} {c c2 : OS} {m2 : Nat → Int32} {s : Int32} (h : RR P NP D T LC CC FC c m) (h2 : RR P NP D T2 LC2 CC FC2 c2 m2) (h8 : m2 8 = m 8 + s) (hk : ∀ q, q < CC → wt m q = false → m2 (602 + 7 * q + 3) = m (602 + 7 * q + 3)) : stc m 1 CC ≤ stc m2 1 CC ∧ s = nI (stc m2 1 CC - stc m 1 CC) := by
  have hle : stc m 1 CC ≤ stc m2 1 CC := fb_ct_sub fun q hq e => by
    have e1 : m (602 + 7 * q + 3) = 1 := of_decide_eq_true e
    have hw : wt m q = false := by
      cases w : wt m q with
      | false => rfl
      | true =>
        rw [wt_iff.mp w] at e1
        exact absurd e1 (by decide)
    exact decide_eq_true ((hk q hq hw).trans e1)
  refine ⟨hle, ?_⟩
  have g1 : m 8 = nI (stc m 1 CC) := h.1.2.2.2.2.2.2.2.1.1
  have g2 : m2 8 = nI (stc m2 1 CC) := h2.1.2.2.2.2.2.2.2.1.1
  rw [g1, g2] at h8
  rw [← pk_sub hle, h8, Int32.add_comm, Int32.add_sub_cancel]
/-- ticks on the court: all that is to be known of them -/
theorem go_ok (hU : Ru P NP E Bs F Pt Ap ru M) (h : RR P NP 2100 T LC CC FC no (M.2.1 9)) (hI : Inv P NP CC LC FC (M.2.1 9)) (hn : 100 < n) {t : Nat} (hT : T + t ≤ 2000) : ∃ c' M' LC' FC', cT n ru t no = some (c', nI (stc (M'.2.1 9) 1 CC - stc (M.2.1 9) 1 CC)) ∧ mT n t M = some M' ∧ Ru P NP E Bs F Pt Ap ru M' ∧ RR P NP 2100 (T + t) LC' CC FC' c' (M'.2.1 9) ∧ Inv P NP CC LC' FC' (M'.2.1 9) ∧ stc (M.2.1 9) 1 CC ≤ stc (M'.2.1 9) 1 CC ∧ (∀ q, q < CC → wt (M.2.1 9) q = false → M'.2.1 9 (602 + 7 * q + 3) = (M.2.1 9) (602 + 7 * q + 3)) := by
  obtain ⟨c', M', s, h1, h2, LC', FC', z1, z2, z3, z4, z5, z6, z7⟩ := ticks (n := n) hU hn (Nat.le_refl 2100) (by omega) h t hT
  obtain ⟨y1, y2⟩ := met_sum h z1 z4 z5
  subst y2
  exact ⟨c', M', LC', FC', h1, h2, hU.Fr z3, z1, z7 _ (inv_clo h.1.P64 h.1.C60 hU.2.2.2.2.1) hI, y1, z5⟩
theorem run_ok (hU : Ru P NP E Bs F Pt Ap ru M) (h : RR P NP 2100 T LC CC FC no (M.2.1 9)) (hn : 2500 < n) {t : Nat} (ht1 : 1 ≤ t) (ht2 : t ≤ 500) (hT : T + t ≤ 2000) {pa' : PS} (hk : f_X3_keep n pa no = some pa') {r : OS × Int32} (hr : cT n ru t no = some r) : ∀ sv x, f_X8_run n sv x ru no pa (nI t) = some (r.1, pa', r.2, 0) := fun sv x => by
  have hTi := h.1.time
  have htb : tkb (nI t) = true := by
    unfold tkb
    rw [decide_eq_true (show (1 : Int32) ≤ nI t from nI_le (a := 1) (b := t) ht1 (by omega)), decide_eq_true (show nI t ≤ (500 : Int32) from nI_le (a := t) (b := 500) ht2 (by decide))]
    rfl
  obtain ⟨r', r1, r2⟩ := c_run (n := n) (ru := ru) (sv := sv) (th := x) (no := no) (pa := pa') (a := t) (by omega) (by omega) (fun i hi => by
    obtain ⟨c1, M1, s1, k1, _⟩ := ticks (n := n) hU (by omega) (Nat.le_refl 2100) (by omega) h i (by omega)
    exact ⟨(c1, s1), k1⟩)
  have e3 : r' = r := Option.some.inj (r1.symm.trans hr)
  subst e3
  unfold f_X8_run
  rw [c_needTicks, ebnd, htb, if_pos rfl, if_pos rfl, hTi.2.1, nI_add, if_pos (show nI (T + t) ≤ (2000 : Int32) from nI_le (a := T + t) (b := 2000) hT (by decide)), hk, ebnd, r2]
theorem order_ok (h : RR P NP 2100 T LC CC FC no (M.2.1 9)) (hI : Inv P NP CC LC FC (M.2.1 9)) (hU : Ru P NP E Bs F Pt Ap ru M) {o : Nat} (ho : o ≤ 2) {pa' : PS} (hk : f_X3_keep n pa no = some pa') : (∀ sv x, f_X8_setOrder n sv x no pa (nI o) = some (sI no 1 (nI o), pa', no.1 1, 0)) ∧ RR P NP 2100 T LC CC FC (sI no 1 (nI o)) (upd (M.2.1 9) 1 (nI o)) ∧ Inv P NP CC LC FC (upd (M.2.1 9) 1 (nI o)) := by
  refine ⟨fun sv x => ?_, RR.order h ho, hI.sm h.1.P64 h.1.C60 hU.2.2.2.2.1 fun j hj => upd_n (by omega)⟩
  unfold f_X8_setOrder
  rw [show (2 : Int32) = nI 2 from rfl, nd3e (nI o) 2 (by decide), vb_in (by omega) (by decide), if_pos rfl, hk, ebnd, eLet, eLet]
end ACTS
