/-! the law's look at the court: all that it counts comes out as it should -/
theorem pc_succ (m : Nat → Int32) (P : Nat) (v : Int32) : pc m (P + 1) v = pc m P v + (if decide (m (538 + P) = v) then 1 else 0) := rfl
theorem sm_same {f g : Nat → Nat} {K : Nat} (h : ∀ i, i < K → g i = f i) : fb_sm g K = fb_sm f K := fb_sm_cong h
theorem sm_one {f g : Nat → Nat} {a : Nat} : ∀ {K : Nat}, a < K → (∀ i, i < K → i ≠ a → g i = f i) → g a = f a + 1 → fb_sm g K = fb_sm f K + 1
  | 0, h, _, _ => absurd h (Nat.not_lt_zero a)
  | K + 1, h, h1, h2 => by
    rw [fb_sm_succ, fb_sm_succ]
    by_cases e : a = K
    · subst e
      rw [fb_sm_cong (g := f) (fun i hi => h1 i (by omega) (by omega)), h2]
      omega
    · rw [sm_one (K := K) (by omega) (fun i hi => h1 i (by omega)) h2, h1 K (by omega) (fun z => e z.symm)]
      omega
/-- every page is free or of one loan -/
theorem pages_all {m : Nat → Int32} {LC : Nat} (hL : LC < 2 ^ 31) : ∀ {P : Nat}, (∀ k, k < P → m (538 + k) = -1 ∨ ∃ l, l < LC ∧ m (538 + k) = nI l) → pc m P (-1) + fb_sm (fun l => pc m P (nI l)) LC = P
  | 0, _ => by
    have h : fb_sm (fun l => pc m 0 (nI l)) LC = fb_sm (fun _ => 0) LC := fb_sm_cong fun _ _ => rfl
    rw [h, fb_sm_const]
    show 0 + LC * 0 = 0
    omega
  | P + 1, h => by
    have ih := pages_all (m := m) hL (P := P) (fun k hk => h k (by omega))
    rcases h P (by omega) with e | ⟨l, hl, e⟩
    · have e1 : pc m (P + 1) (-1) = pc m P (-1) + 1 := by rw [pc_succ, decide_eq_true e, if_pos rfl]
      have e2 : fb_sm (fun l => pc m (P + 1) (nI l)) LC = fb_sm (fun l => pc m P (nI l)) LC := fb_sm_cong fun i hi => by
        show pc m (P + 1) (nI i) = pc m P (nI i)
        rw [pc_succ, e, decide_eq_false (fun z => nI_m1 i (by omega) z.symm), if_neg (by decide)]
        rfl
      omega
    · have e1 : pc m (P + 1) (-1) = pc m P (-1) := by
        rw [pc_succ, e, decide_eq_false (nI_m1 l (by omega)), if_neg (by decide)]
        rfl
      have e2 : fb_sm (fun l => pc m (P + 1) (nI l)) LC = fb_sm (fun l => pc m P (nI l)) LC + 1 := sm_one hl (fun i hi hne => by
        show pc m (P + 1) (nI i) = pc m P (nI i)
        rw [pc_succ, e, decide_eq_false (fun z => hne (nI_inj (by omega) (by omega) z).symm), if_neg (by decide)]
        rfl) (by
        show pc m (P + 1) (nI l) = pc m P (nI l) + 1
        rw [pc_succ, decide_eq_true e, if_pos rfl])
      omega
/-- a sum over all is the sum of the sums over the owners -/
theorem own_sum {f : Nat → Nat} {o : Nat → Int32} {NP : Nat} (hN : NP < 2 ^ 31) : ∀ {K : Nat}, (∀ l, l < K → ∃ p, p < NP ∧ o l = nI p) → fb_sm (fun p => fb_sm (fun l => if decide (o l = nI p) then f l else 0) K) NP = fb_sm f K
  | 0, _ => by
    have h : fb_sm (fun p => fb_sm (fun l => if decide (o l = nI p) then f l else 0) 0) NP = fb_sm (fun _ => 0) NP := fb_sm_cong fun _ _ => rfl
    rw [h, fb_sm_const]
    rfl
  | K + 1, h => by
    have ih := own_sum (f := f) (o := o) hN (K := K) (fun l hl => h l (by omega))
    obtain ⟨p, hp, e⟩ := h K (by omega)
    have e1 : fb_sm (fun p => fb_sm (fun l => if decide (o l = nI p) then f l else 0) (K + 1)) NP = fb_sm (fun p => fb_sm (fun l => if decide (o l = nI p) then f l else 0) K + (if decide (o K = nI p) then f K else 0)) NP := fb_sm_cong fun _ _ => rfl
    have e2 : fb_sm (fun q => if decide (o K = nI q) then f K else 0) NP = f K := by
      have h3 := fb_sm_upd (fun _ => 0) (f K) hp
      rw [fb_sm_const] at h3
      rw [fb_sm_cong (g := fun k => if k = p then f K else 0) fun q hq => ?_]
      · omega
      · by_cases c : q = p
        · subst c
          rw [if_pos rfl, decide_eq_true e, if_pos rfl]
        · rw [if_neg c, decide_eq_false (fun z => c (nI_inj (by omega) (by omega) (e.symm.trans z)).symm), if_neg (by decide)]
    rw [e1, fb_sm_add, ih, e2]
    rfl
theorem ct_sm (p : Nat → Bool) : ∀ K, fb_sm (fun k => if p k then 1 else 0) K = fb_ct p K
  | 0 => rfl
  | K + 1 => by rw [fb_sm_succ, fb_ct_succ, ct_sm p K]
theorem own_count {b : Nat → Bool} {o : Nat → Int32} {NP K : Nat} (hN : NP < 2 ^ 31) (h : ∀ l, l < K → ∃ p, p < NP ∧ o l = nI p) : fb_sm (fun p => fb_ct (fun l => b l && decide (o l = nI p)) K) NP = fb_ct b K := by
  have e := own_sum (f := fun k => if b k then 1 else 0) hN h
  rw [ct_sm] at e
  rw [← e]
  refine fb_sm_cong fun p hp => ?_
  rw [← ct_sm]
  refine fb_sm_cong fun l hl => ?_
  cases b l <;> cases decide (o l = nI p) <;> rfl
theorem eb_none {m : Nat → Int32} {P : Nat} : ∀ {LC : Nat}, nbk m P LC = 0 → eb m P LC = none
  | 0, _ => rfl
  | LC + 1, h => by
    have h1 : nbk m P (LC + 1) = nbk m P LC + (if bk m P LC then 1 else 0) := rfl
    have h2 : bk m P LC = false := by
      cases q : bk m P LC with
      | false => rfl
      | true => rw [h1, q, if_pos rfl] at h; omega
    show (if bk m P LC then _ else eb m P LC) = none
    rw [h2, if_neg (by decide)]
    exact eb_none (by rw [h1, h2] at h; exact h)
theorem eb_ex {m : Nat → Int32} {P : Nat} : ∀ {LC : Nat}, 0 < nbk m P LC → ∃ b, eb m P LC = some b
  | 0, h => absurd h (by show ¬ 0 < 0; omega)
  | LC + 1, h => by
    have h1 : nbk m P (LC + 1) = nbk m P LC + (if bk m P LC then 1 else 0) := rfl
    cases q : bk m P LC with
    | false =>
      obtain ⟨b, hb⟩ := eb_ex (m := m) (P := P) (LC := LC) (by rw [h1, q] at h; exact h)
      refine ⟨b, ?_⟩
      show (if bk m P LC then _ else eb m P LC) = some b
      rw [q, if_neg (by decide), hb]
    | true =>
      show ∃ b, (if bk m P LC then (match eb m P LC with | none => some LC | some b => if m (58 + 6 * LC + 1) < m (58 + 6 * b + 1) then some LC else some b) else eb m P LC) = some b
      rw [q, if_pos rfl]
      cases eb m P LC with
      | none => exact ⟨LC, rfl⟩
      | some b =>
        show ∃ b9, (if m (58 + 6 * LC + 1) < m (58 + 6 * b + 1) then some LC else some b) = some b9
        by_cases c : m (58 + 6 * LC + 1) < m (58 + 6 * b + 1)
        · exact ⟨LC, if_pos c⟩
        · exact ⟨b, if_neg c⟩
section SOUND
variable {P NP D T LC CC FC E Bs F Pt Ap n : Nat} {no ru M x : OS} {sv : Value} {pa : PS}
theorem s152 (h : RR P NP D T LC CC FC no (M.2.1 9)) (hn : 100 < n) {l : Nat} (hl : l < LC) (rc : OS → Int32 → Int32 → Int32 → Int32 → Int32 → Option (OS × Int32)) (w3 w4 w5 w6 : Int32) : j_L_isSound_152 n sv x ru pa (nI P) (nI NP) rc no w3 w4 w5 w6 (nI l) (nI (pc (M.2.1 9) P (nI l))) = rc no w3 w4 w5 w6 (nI (l + 1)) := by
  have hle := pc_le (M.2.1 9) P (nI l)
  have h64 := h.1.P64
  have hp : fb_ct (pcb (pgs (M.2.1 9)) (nI l)) P ≤ pc (M.2.1 9) P (nI l) := fb_ct_sub fun k _ hk => by
    unfold pcb at hk
    exact (Bool.and_eq_true_iff.mp hk).1
  unfold j_L_isSound_152
  rw [q_pieces h hn hl, ebnd2, if_pos rfl, if_pos (nI_le hp (by omega)), eLet, nI_1]
theorem s90 (h : RR P NP D T LC CC FC no (M.2.1 9)) (hU : Ru P NP E Bs F Pt Ap ru M) (hI : Inv P NP CC LC FC (M.2.1 9)) (hn : 100 < n) {l : Nat} (hl : l < LC) (rc : OS → Int32 → Int32 → Int32 → Int32 → Int32 → Option (OS × Int32)) (w3 w4 w5 w6 s1 : Int32) : j_L_isSound_90 n sv x ru pa (nI P) (nI NP) rc no w3 w4 w5 (nI l) (nI (pc (M.2.1 9) P (nI l))) w6 s1 = rc no w3 w4 w5 (w6 + s1) (nI (l + 1)) := by
  have hle := pc_le (M.2.1 9) P (nI l)
  have h64 := h.1.P64
  have h80 := h.1.L80
  obtain ⟨g, t, ag, a2, b1, b2⟩ := hI.2.2.1 l hl
  have L7 : f_X8_loan n sv x no (nI l) (7 : Int32) = some (nI g, 0) := (q_loan h hl (j := 7) (by omega)).trans (by show some ((M.2.1 9) (58 + 6 * l + 5), 0) = _; rw [ag])
  have L6 : f_X8_loan n sv x no (nI l) (6 : Int32) = some (nI t, 0) := (q_loan h hl (j := 6) (by omega)).trans (by show some ((M.2.1 9) (58 + 6 * l + 4), 0) = _; rw [a2])
  unfold j_L_isSound_90
  rw [eLet, L7, ebnd2, if_pos rfl, if_neg (nI_nlt (by omega) (by omega)), L6, ebnd2, if_pos rfl, ebnd2, if_pos rfl, nI_add, if_neg (nI_nlt (by omega) (by omega))]
  by_cases hp : 0 < pc (M.2.1 9) P (nI l)
  · obtain ⟨k, k1, k2, k3⟩ := q_pageOf (sv := sv) (x := x) h hn hl (show pc (M.2.1 9) P (nI l) - 1 < pc (M.2.1 9) P (nI l) by omega)
    have k4 : f_X8_pageOf n sv x no (nI l) (nI (pc (M.2.1 9) P (nI l)) - (1 : Int32)) = some (nI k, 0) := by
      rw [show nI (pc (M.2.1 9) P (nI l)) - (1 : Int32) = nI (pc (M.2.1 9) P (nI l) - 1) from pk_sub (a := pc (M.2.1 9) P (nI l)) (b := 1) (by omega)]
      exact k3
    rw [if_neg (nI_nle hp (by omega)), k4, ebnd2, if_pos rfl, q_page h hU k1, ebnd2, if_pos rfl, k2, if_pos rfl]
    exact s152 h hn hl rc _ _ _ _
  · rw [if_pos (nI_zle (by omega))]
    exact s152 h hn hl rc _ _ _ _
theorem s56 (h : RR P NP D T LC CC FC no (M.2.1 9)) (hU : Ru P NP E Bs F Pt Ap ru M) (hI : Inv P NP CC LC FC (M.2.1 9)) (hn : 100 < n) {l : Nat} (hl : l < LC) (rc : OS → Int32 → Int32 → Int32 → Int32 → Int32 → Option (OS × Int32)) (w3 w5 w6 s0 s1 : Int32) : j_L_isSound_56 n sv x ru pa (nI P) (nI NP) rc no w3 w5 w6 (nI l) (nI (pc (M.2.1 9) P (nI l))) s0 s1 = rc no w3 (s0 + s1) (w5 + bI (bk (M.2.1 9) P l)) (w6 + nI (if bk (M.2.1 9) P l then pc (M.2.1 9) P (nI l) else 0)) (nI (l + 1)) := by
  have L5 : f_X8_loan n sv x no (nI l) (5 : Int32) = some (bI (bk (M.2.1 9) P l), 0) := q_loan h hl (j := 5) (by omega)
  unfold j_L_isSound_56
  rw [eLet, L5, ebnd2, if_pos rfl, eLet, ebnd2, if_pos rfl]
  cases bk (M.2.1 9) P l with
  | true =>
    rw [if_pos (show bI true = (1 : Int32) from rfl), if_pos rfl]
    exact s90 h hU hI hn hl rc _ _ _ _ _
  | false =>
    rw [if_neg (show ¬ bI false = (1 : Int32) from by decide), if_neg (show ¬ (false = true) from by decide)]
    exact s90 h hU hI hn hl rc _ _ _ _ _
theorem s19 (h : RR P NP D T LC CC FC no (M.2.1 9)) (hU : Ru P NP E Bs F Pt Ap ru M) (hI : Inv P NP CC LC FC (M.2.1 9)) (hn : 100 < n) {l : Nat} (hl : l < LC) (N : Nat) (w3 w4 w5 w6 : Int32) : l_L_isSound_19 n sv x ru pa (nI P) (nI NP) (N + 1) no w3 w4 w5 w6 (nI l) = l_L_isSound_19 n sv x ru pa (nI P) (nI NP) N no (w3 + nI (pc (M.2.1 9) P (nI l))) (w4 + nI (if decide (0 < pc (M.2.1 9) P (nI l)) then 1 else 0)) (w5 + bI (bk (M.2.1 9) P l)) (w6 + nI (if bk (M.2.1 9) P l then pc (M.2.1 9) P (nI l) else 0)) (nI (l + 1)) := by
  have hle := pc_le (M.2.1 9) P (nI l)
  have h64 := h.1.P64
  have h80 := h.1.L80
  have L1 : f_X8_loan n sv x no (nI l) (1 : Int32) = some (nI (pc (M.2.1 9) P (nI l)), 0) := q_loan h hl (j := 1) (by omega)
  show s_L_isSound_19 n sv x ru pa (nI P) (nI NP) _ no _ _ _ _ (nI l) = _
  unfold s_L_isSound_19
  rw [q_c10 h, ebnd, if_neg (nI_ge hl (by omega)), L1, ebnd2, if_pos rfl, eLet]
  by_cases hp : 0 < pc (M.2.1 9) P (nI l)
  · rw [if_neg (nI_nle hp (by omega)), decide_eq_true hp, if_pos rfl]
    exact s56 h hU hI hn hl _ _ _ _ _ _
  · rw [if_pos (nI_zle (by omega)), decide_eq_false hp, if_neg (show ¬ (false = true) from by decide)]
    exact s56 h hU hI hn hl _ _ _ _ _ _
theorem l19 (h : RR P NP D T LC CC FC no (M.2.1 9)) (hU : Ru P NP E Bs F Pt Ap ru M) (hI : Inv P NP CC LC FC (M.2.1 9)) (hn : 100 < n) (a : Nat) : ∀ (d l N : Nat), l + d = LC → d < N → l_L_isSound_19 n sv x ru pa (nI P) (nI NP) N no (nI (a + fb_sm (fun i => pc (M.2.1 9) P (nI i)) l)) (nI (fb_ct (fun i => decide (0 < pc (M.2.1 9) P (nI i))) l)) (nI (nbk (M.2.1 9) P l)) (nI (bp (M.2.1 9) P l)) (nI l) = j_L_isSound_171 n sv x ru pa (nI P) (nI NP) no (nI (a + fb_sm (fun i => pc (M.2.1 9) P (nI i)) LC)) (nI (fb_ct (fun i => decide (0 < pc (M.2.1 9) P (nI i))) LC)) (nI (nbk (M.2.1 9) P LC)) (nI (bp (M.2.1 9) P LC))
  | 0, l, N, hd, hN => by
    obtain ⟨N', rfl⟩ : ∃ N', N = N' + 1 := ⟨N - 1, by omega⟩
    obtain rfl : l = LC := by omega
    show s_L_isSound_19 n sv x ru pa (nI P) (nI NP) _ no _ _ _ _ (nI l) = _
    unfold s_L_isSound_19
    rw [q_c10 h, ebnd, if_pos (Int32.le_refl _)]
  | d + 1, l, N, hd, hN => by
    obtain ⟨N', rfl⟩ : ∃ N', N = N' + 1 := ⟨N - 1, by omega⟩
    rw [s19 h hU hI hn (by omega), nI_add, nI_add, bI_n, nI_add, nI_add, Nat.add_assoc]
    exact l19 h hU hI hn a d (l + 1) N' (by omega) (by omega)
theorem s247 (h : RR P NP D T LC CC FC no (M.2.1 9)) (hU : Ru P NP E Bs F Pt Ap ru M) (hn : 100 < n) {p : Nat} (hp : p < NP) (N : Nat) (w7 w8 w9 : Int32) : l_L_isSound_247 n sv x ru pa (nI P) (nI NP) (N + 1) no w7 w8 w9 (nI p) = l_L_isSound_247 n sv x ru pa (nI P) (nI NP) N no (w7 + nI (fb_sm (fun l => if decide ((M.2.1 9) (58 + 6 * l) = nI p) then pc (M.2.1 9) P (nI l) else 0) LC)) (w8 + nI (stp (M.2.1 9) (nI p) 0 CC)) (w9 + (M.2.1 9) (10 + 6 * p + 4)) (nI (p + 1)) := by
  have hNP : NP ≤ 8 := hU.2.2.2.2.1
  obtain ⟨⟨r, r1, r2⟩, ⟨b, b1, b2⟩⟩ := h.1.2.2.2.1 p (by omega)
  have p3 : f_X8_process n sv x ru no (nI p) (3 : Int32) = some (nI (fb_sm (fun l => if decide ((M.2.1 9) (58 + 6 * l) = nI p) then pc (M.2.1 9) P (nI l) else 0) LC), 0) := q_process h hU hn hp (j := 3) (by omega)
  have p6 : f_X8_process n sv x ru no (nI p) (6 : Int32) = some (nI (stp (M.2.1 9) (nI p) 0 CC), 0) := q_process h hU hn hp (j := 6) (by omega)
  have p8 : f_X8_process n sv x ru no (nI p) (8 : Int32) = some ((M.2.1 9) (10 + 6 * p + 4), 0) := q_process h hU hn hp (j := 8) (by omega)
  have p0 : f_X8_process n sv x ru no (nI p) (0 : Int32) = some (nI r, 0) := (q_process h hU hn hp (j := 0) (by omega)).trans (by show some ((M.2.1 9) (10 + 6 * p), 0) = _; rw [r2])
  have p1 : f_X8_process n sv x ru no (nI p) (1 : Int32) = some (nI b, 0) := (q_process h hU hn hp (j := 1) (by omega)).trans (by show some ((M.2.1 9) (10 + 6 * p + 1), 0) = _; rw [b2])
  show s_L_isSound_247 n sv x ru pa (nI P) (nI NP) _ no _ _ _ (nI p) = _
  unfold s_L_isSound_247
  rw [if_neg (nI_ge hp (by omega)), p3, ebnd2, if_pos rfl, eLet, p6, ebnd2, if_pos rfl, eLet, p8, ebnd2, if_pos rfl, eLet, p0, ebnd2, if_pos rfl, if_neg (show ¬ (999 : Int32) < nI r from nI_nlt (a := 999) (b := r) r1 (by decide)), p1, ebnd2, if_pos rfl, if_neg (show ¬ (999 : Int32) < nI b from nI_nlt (a := 999) (b := b) b1 (by decide)), ebnd2, if_pos rfl, if_neg (nI_pos (by omega)), ebnd2, if_pos rfl, if_pos (show (0 : Int32) ≤ nI b from Int32.not_lt.mp (nI_pos (by omega))), eLet, nI_1]
theorem l247 (h : RR P NP D T LC CC FC no (M.2.1 9)) (hU : Ru P NP E Bs F Pt Ap ru M) (hn : 100 < n) : ∀ (d p N : Nat), p + d = NP → d < N → l_L_isSound_247 n sv x ru pa (nI P) (nI NP) N no (nI (fb_sm (fun p => fb_sm (fun l => if decide ((M.2.1 9) (58 + 6 * l) = nI p) then pc (M.2.1 9) P (nI l) else 0) LC) p)) (nI (fb_sm (fun p => stp (M.2.1 9) (nI p) 0 CC) p)) (su (fun p => (M.2.1 9) (10 + 6 * p + 4)) p) (nI p) = j_L_isSound_345 n sv x ru pa (nI P) no (nI (fb_sm (fun p => fb_sm (fun l => if decide ((M.2.1 9) (58 + 6 * l) = nI p) then pc (M.2.1 9) P (nI l) else 0) LC) NP)) (nI (fb_sm (fun p => stp (M.2.1 9) (nI p) 0 CC) NP)) (su (fun p => (M.2.1 9) (10 + 6 * p + 4)) NP)
  | 0, p, N, hd, hN => by
    obtain ⟨N', rfl⟩ : ∃ N', N = N' + 1 := ⟨N - 1, by omega⟩
    obtain rfl : p = NP := by omega
    show s_L_isSound_247 n sv x ru pa (nI P) (nI p) _ no _ _ _ (nI p) = _
    unfold s_L_isSound_247
    rw [if_pos (Int32.le_refl _)]
  | d + 1, p, N, hd, hN => by
    obtain ⟨N', rfl⟩ : ∃ N', N = N' + 1 := ⟨N - 1, by omega⟩
    rw [s247 h hU hn (by omega), nI_add, nI_add]
    exact l247 h hU hn d (p + 1) N' (by omega) (by omega)
theorem s351 (h : RR P NP D T LC CC FC no (M.2.1 9)) (hI : Inv P NP CC LC FC (M.2.1 9)) {q : Nat} (hq : q < CC) (N : Nat) (w7 w8 w9 w10 : Int32) : l_L_isSound_351 n sv x ru pa (nI P) w7 w8 w9 (N + 1) no w10 (nI q) = l_L_isSound_351 n sv x ru pa (nI P) w7 w8 w9 N no (w10 + bI (wt (M.2.1 9) q)) (nI (q + 1)) := by
  have h60 := h.1.C60
  have c3 : f_X8_claim n sv x no (nI q) (3 : Int32) = some ((M.2.1 9) (602 + 7 * q + 3), 0) := q_claim h hq (j := 3) (by omega)
  have c5 : f_X8_claim n sv x no (nI q) (5 : Int32) = some ((M.2.1 9) (602 + 7 * q + 5), 0) := q_claim h hq (j := 5) (by omega)
  have key : ∀ s1 : Int32, j_L_isSound_379 n sv x ru pa (nI P) w7 w8 w9 (l_L_isSound_351 n sv x ru pa (nI P) w7 w8 w9 N) no (nI q) w10 s1 = l_L_isSound_351 n sv x ru pa (nI P) w7 w8 w9 N no (w10 + s1) (nI (q + 1)) := fun s1 => by
    unfold j_L_isSound_379
    rw [eLet, c3, ebnd2, if_pos rfl]
    rcases hI.2.2.2.2.1 q hq with ⟨a1, l, hl, a2, a3⟩ | ⟨a1, a2⟩
    · have h80 := h.1.L80
      have l4 : f_X8_loan n sv x no (nI l) (4 : Int32) = some (nI q, 0) := (q_loan h hl (j := 4) (by omega)).trans (by show some ((M.2.1 9) (58 + 6 * l + 3), 0) = _; rw [a3])
      rw [if_pos a1]
      unfold j_L_isSound_398
      rw [c5, a2, ebnd2, if_pos rfl, if_neg (nI_m1 l (by omega))]
      unfold j_L_isSound_414
      rw [if_pos rfl, c5, a2, ebnd2, if_pos rfl, if_neg (nI_m1 l (by omega)), ebnd2, if_pos rfl, l4, ebnd2, if_pos rfl, if_pos rfl, eLet, nI_1]
    · rw [if_neg a1]
      unfold j_L_isSound_398
      rw [c5, a2, ebnd2, if_pos rfl, if_pos rfl]
      unfold j_L_isSound_414
      rw [if_pos rfl, c5, a2, ebnd2, if_pos rfl, if_pos rfl, eLet, nI_1]
  show s_L_isSound_351 n sv x ru pa (nI P) w7 w8 w9 _ no _ (nI q) = _
  unfold s_L_isSound_351
  rw [q_c13 h, ebnd, if_neg (nI_ge hq (by omega)), c3, ebnd2, if_pos rfl]
  by_cases c : (M.2.1 9) (602 + 7 * q + 3) = 0
  · rw [if_pos c, show wt (M.2.1 9) q = true from wt_iff.mpr c]
    exact key 1
  · rw [if_neg c, show wt (M.2.1 9) q = false from by cases w : wt (M.2.1 9) q with | false => rfl | true => exact absurd (wt_iff.mp w) c]
    exact key 0
theorem l351 (h : RR P NP D T LC CC FC no (M.2.1 9)) (hI : Inv P NP CC LC FC (M.2.1 9)) (w7 w8 w9 : Int32) : ∀ (d q N : Nat), q + d = CC → d < N → l_L_isSound_351 n sv x ru pa (nI P) w7 w8 w9 N no (nI (fb_ct (wt (M.2.1 9)) q)) (nI q) = j_L_isSound_453 n sv x ru pa (nI P) no w7 w8 w9 (nI (fb_ct (wt (M.2.1 9)) CC))
  | 0, q, N, hd, hN => by
    obtain ⟨N', rfl⟩ : ∃ N', N = N' + 1 := ⟨N - 1, by omega⟩
    obtain rfl : q = CC := by omega
    show s_L_isSound_351 n sv x ru pa (nI P) w7 w8 w9 _ no _ (nI q) = _
    unfold s_L_isSound_351
    rw [q_c13 h, ebnd, if_pos (Int32.le_refl _)]
  | d + 1, q, N, hd, hN => by
    obtain ⟨N', rfl⟩ : ∃ N', N = N' + 1 := ⟨N - 1, by omega⟩
    rw [s351 h hI (by omega), bI_n, nI_add]
    exact l351 h hI w7 w8 w9 d (q + 1) N' (by omega) (by omega)
/-- the court is sound -/
theorem isSound (h : RR P NP D T LC CC FC no (M.2.1 9)) (hU : Ru P NP E Bs F Pt Ap ru M) (hI : Inv P NP CC LC FC (M.2.1 9)) (hn : 200 < n) : ∃ no', (∀ sv x pa, f_L_isSound n sv x ru no pa (nI P) (nI NP) = some (no', 1)) ∧ Cpy no no' := by
  have h80 := h.1.L80
  have h60 := h.1.C60
  have h64 := h.1.P64
  have hNP : NP ≤ 8 := hU.2.2.2.2.1
  have eP := pages_all (m := (M.2.1 9)) (LC := LC) (by omega) h.1.2.2.1.2
  have e1 : fb_sm (fun p => fb_sm (fun l => if decide ((M.2.1 9) (58 + 6 * l) = nI p) then pc (M.2.1 9) P (nI l) else 0) LC) NP = fb_sm (fun l => pc (M.2.1 9) P (nI l)) LC := own_sum (o := fun l => (M.2.1 9) (58 + 6 * l)) (by omega) fun l hl => (h.1.2.2.2.2.2.1 l hl).1
  have e2 : fb_sm (fun p => stp (M.2.1 9) (nI p) 0 CC) NP = stc (M.2.1 9) 0 CC := own_count (b := fun q => decide ((M.2.1 9) (602 + 7 * q + 3) = 0)) (o := fun q => (M.2.1 9) (602 + 7 * q)) (by omega) fun q hq => (h.1.2.2.2.2.2.2.1 q hq).1
  have e3 : fb_ct (wt (M.2.1 9)) CC = stc (M.2.1 9) 0 CC := rfl
  have cle : stc (M.2.1 9) 0 CC ≤ CC := fb_ct_le _ _
  have fin : ∃ no', (∀ sv x pa, j_L_isSound_453 n sv x ru pa (nI P) no (nI (fb_sm (fun l => pc (M.2.1 9) P (nI l)) LC)) (nI (stc (M.2.1 9) 0 CC)) (nI FC) (nI (stc (M.2.1 9) 0 CC)) = some (no', 1)) ∧ Cpy no no' := by
    have beg : ∀ sv x pa, j_L_isSound_453 n sv x ru pa (nI P) no (nI (fb_sm (fun l => pc (M.2.1 9) P (nI l)) LC)) (nI (stc (M.2.1 9) 0 CC)) (nI FC) (nI (stc (M.2.1 9) 0 CC)) = if nI (stc (M.2.1 9) 0 CC) = 0 then some (no, (1 : Int32)) else bnd3 (f_X8_waiting n sv x no (nI (stc (M.2.1 9) 0 CC) - (1 : Int32))) (fun (p0no_11 : OS) (r_12 : Int32) (cd_13 : Nat) => if cd_13 = 0 then (bnd2 (f_X8_claim n sv x p0no_11 r_12 (3 : Int32)) (fun (r_14 : Int32) (cd_15 : Nat) => if cd_15 = 0 then (if r_14 = 0 then (some (p0no_11, (1 : Int32))) else (some (p0no_11, (0 : Int32)))) else (none))) else (none)) := fun sv x pa => by
      unfold j_L_isSound_453
      rw [q_c9 h, ebnd, if_pos (by rw [pk_sub (by omega)]; exact congrArg nI (by omega)), q_c14 h (by omega), ebnd, if_pos rfl, if_pos rfl, q_c18 h, ebnd, if_pos rfl]
    by_cases c : stc (M.2.1 9) 0 CC = 0
    · refine ⟨no, fun sv x pa => ?_, Cpy.rf no⟩
      rw [beg, if_pos (by rw [c]; rfl)]
    · obtain ⟨w, q, q1, q2, q3, q4⟩ := q_waiting (n := n) h hNP (by omega) (show stc (M.2.1 9) 0 CC - 1 < stc (M.2.1 9) 0 CC by omega)
      refine ⟨sA no 15 w, fun sv x pa => ?_, q4⟩
      have q5 : f_X8_waiting n sv x no (nI (stc (M.2.1 9) 0 CC) - (1 : Int32)) = some (sA no 15 w, nI q, 0) := by
        rw [show nI (stc (M.2.1 9) 0 CC) - (1 : Int32) = nI (stc (M.2.1 9) 0 CC - 1) from pk_sub (a := stc (M.2.1 9) 0 CC) (b := 1) (by omega)]
        exact q3 sv x
      have h' : RR P NP D T LC CC FC (sA no 15 w) (M.2.1 9) := h.cpy q4 fun _ _ => rfl
      have c3 : f_X8_claim n sv x (sA no 15 w) (nI q) (3 : Int32) = some ((M.2.1 9) (602 + 7 * q + 3), 0) := q_claim h' q1 (j := 3) (by omega)
      rw [beg, if_neg (nI_ne0 (by omega) (by omega)), q5, ebnd3, if_pos rfl, c3, ebnd2, if_pos rfl, if_pos q2]
  obtain ⟨no', hfin, hcp⟩ := fin
  refine ⟨no', fun sv x pa => ?_, hcp⟩
  have l3 := l351 (n := n) (sv := sv) (x := x) (ru := ru) (pa := pa) h hI (nI (fb_sm (fun l => pc (M.2.1 9) P (nI l)) LC)) (nI (stc (M.2.1 9) 0 CC)) (nI FC) CC 0 n (by omega) (by omega)
  have l2 := l247 (n := n) (sv := sv) (x := x) (pa := pa) h hU (by omega) NP 0 n (by omega) (by omega)
  rw [e1, e2, hI.2.2.2.1.2] at l2
  have l1 := l19 (n := n) (sv := sv) (x := x) (pa := pa) h hU hI (by omega) (pc (M.2.1 9) P (-1)) LC 0 n (by omega) (by omega)
  rw [eP] at l1
  unfold f_L_isSound
  rw [q_c9 h, ebnd]
  have l1' : l_L_isSound_19 n sv x ru pa (nI P) (nI NP) n no (nI (pc (M.2.1 9) P (-1))) (0 : Int32) (0 : Int32) (0 : Int32) (0 : Int32) = _ := l1
  rw [l1']
  unfold j_L_isSound_171
  have l2' : l_L_isSound_247 n sv x ru pa (nI P) (nI NP) n no (0 : Int32) (0 : Int32) (0 : Int32) (0 : Int32) = _ := l2
  have f9 : ∀ s : Int32, j_L_isSound_230 n sv x ru pa (nI P) (nI NP) no s s = some (no', 1) := fun s => by
    unfold j_L_isSound_230
    rw [if_pos rfl, l2']
    unfold j_L_isSound_345
    have l3' : l_L_isSound_351 n sv x ru pa (nI P) (nI (fb_sm (fun l => pc (M.2.1 9) P (nI l)) LC)) (nI (stc (M.2.1 9) 0 CC)) (nI FC) n no (0 : Int32) (0 : Int32) = _ := l3
    rw [l3', e3]
    exact hfin sv x pa
  rw [if_pos rfl, q_c11 h (by omega), ebnd, if_pos rfl, q_c12 h (by omega), ebnd, if_pos rfl, q_overdue h (by omega), ebnd, if_pos rfl, q_firstBroken h (by omega), ebnd]
  by_cases c : nbk (M.2.1 9) P LC = 0
  · rw [eb_none c, if_pos (show toI none = (-1 : Int32) from rfl), if_pos (by rw [c]; rfl)]
    exact f9 1
  · obtain ⟨b, hb⟩ := eb_ex (m := (M.2.1 9)) (P := P) (LC := LC) (by omega)
    have hb2 := (eb_lt (M.2.1 9) P LC b hb).1
    have nle : nbk (M.2.1 9) P LC ≤ LC := fb_ct_le _ _
    rw [hb, if_neg (show ¬ toI (some b) = (-1 : Int32) from nI_m1 b (by omega)), if_neg (nI_ne0 (by omega) (by omega))]
    exact f9 0
end SOUND
