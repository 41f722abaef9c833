/-! the pure layer: words, loops, readers of the tables -/
def bI (b : Bool) : Int32 := if b then 1 else 0
theorem bI_t : bI true = 1 := rfl
theorem bI_f : bI false = 0 := rfl
theorem bI_z (b : Bool) : (bI b = 0) ↔ b = false := by cases b <;> decide
theorem bI_1 (b : Bool) : (bI b = 1) ↔ b = true := by cases b <;> decide
theorem bI_01 (b : Bool) : bI b = 0 ∨ bI b = 1 := by cases b <;> decide
theorem bI_n (b : Bool) : bI b = nI (if b then 1 else 0) := by cases b <;> rfl
theorem bI_if (c : Prop) [Decidable c] : (if c then some (1 : Int32) else some (0 : Int32)) = some (bI (decide c)) := by
  by_cases h : c
  · rw [if_pos h, decide_eq_true h]; rfl
  · rw [if_neg h, decide_eq_false h]; rfl
theorem bI_fi (c : Prop) [Decidable c] : (if c then some (0 : Int32) else some (1 : Int32)) = some (bI (decide (¬ c))) := by
  by_cases h : c
  · rw [if_pos h, decide_eq_false (fun z => z h)]; rfl
  · rw [if_neg h, decide_eq_true h]; rfl
theorem eLet {α β : Type} (e : α) (f : α → Option β) : Let e f = f e := rfl
theorem ebnd {α β : Type} (x : α) (f : α → Option β) : bnd (some x) f = f x := rfl
theorem ebnd2 {α γ β : Type} (x : α) (y : γ) (f : α → γ → Option β) : bnd2 (some (x, y)) f = f x y := rfl
theorem ebnd3 {α γ δ β : Type} (x : α) (y : γ) (z : δ) (f : α → γ → δ → Option β) : bnd3 (some (x, y, z)) f = f x y z := rfl
theorem ebnd4 {α γ δ ε β : Type} (x : α) (y : γ) (z : δ) (w : ε) (f : α → γ → δ → ε → Option β) : bnd4 (some (x, y, z, w)) f = f x y z w := rfl
theorem egI {β : Type} {z : Nat} {i : Int32} {o : Option β} (h : vp_in i z) : gI z i o = o := if_neg h
theorem egN {β : Type} {z k : Nat} {o : Option β} (h : k < z) (hz : z < 2 ^ 31) : gI z (nI k) o = o := if_neg (vp_in_nI h hz)
theorem egZ {β : Type} (b : Bool) {o : Option β} : gZ (bI b) o = o := if_pos (bI_01 b)
theorem egZ0 {β : Type} {o : Option β} : gZ (0 : Int32) o = o := if_pos (Or.inl rfl)
theorem egZ1 {β : Type} {o : Option β} : gZ (1 : Int32) o = o := if_pos (Or.inr rfl)
theorem eoN {β : Type} {c : Prop} [Decidable c] {o : Option β} (h : ¬ c) : oN c o = o := if_neg h
theorem ifz {α : Type} (b : Bool) (x y : α) : (if bI b = 0 then x else y) = if b then y else x := by
  cases b
  · rfl
  · rfl
theorem i_nle {a b : Int32} : ¬ a ≤ b ↔ b < a := Int32.not_le
theorem i_nlt {a b : Int32} : ¬ a < b ↔ b ≤ a := Int32.not_lt
theorem nI_m1 (k : Nat) (h : k < 2 ^ 31) : nI k ≠ -1 := by
  intro e
  have := nI_pos h
  rw [e] at this
  exact this (by decide)
theorem nI_inj {a b : Nat} (ha : a < 2 ^ 31) (hb : b < 2 ^ 31) (h : nI a = nI b) : a = b := (nI_eq ha hb).mp h
theorem nI_le0 {k : Nat} (h : k < 2 ^ 31) : (nI k ≤ 0) ↔ k = 0 := by
  rw [← nI_0, nI_leI h (by decide)]; omega
theorem nI_eq0 {k : Nat} (h : k < 2 ^ 31) : (nI k = 0) ↔ k = 0 := by
  rw [← nI_0, nI_eq h (by decide)]
theorem nI_lt0 {k : Nat} (h : k < 2 ^ 31) : ¬ nI k < 0 := nI_pos h
theorem upd_s (f : Nat → Int32) (k : Nat) (x : Int32) : upd f k x k = x := pk_us
theorem upd_n {f : Nat → Int32} {k j : Nat} {x : Int32} (h : j ≠ k) : upd f k x j = f j := pk_un h
/-! loops -/
def itr {σ : Type} (g : Nat → σ → σ) : Nat → σ → σ
  | 0, s => s
  | k + 1, s => g k (itr g k s)
theorem loop_acc {σ β : Type} {l : Nat → σ → Int32 → Option β} {g : Nat → σ → σ} {fin : σ → β} {K : Nat} (hstop : ∀ N s, l (N + 1) s (nI K) = some (fin s)) (hstep : ∀ N s i, i < K → l (N + 1) s (nI i) = l N (g i s) (nI (i + 1))) {N : Nat} (hN : K < N) (s : σ) : l N s (nI 0) = some (fin (itr g K s)) := by
  have h : ∀ d i N, i + d = K → d < N → l N (itr g i s) (nI i) = some (fin (itr g K s)) := by
    intro d
    induction d with
    | zero =>
      intro i N h1 h2
      obtain ⟨N', rfl⟩ : ∃ N', N = N' + 1 := ⟨N - 1, by omega⟩
      have : i = K := by omega
      subst this
      exact hstop N' _
    | succ d ih =>
      intro i N h1 h2
      obtain ⟨N', rfl⟩ : ∃ N', N = N' + 1 := ⟨N - 1, by omega⟩
      rw [hstep N' _ i (by omega)]
      exact ih (i + 1) N' (by omega) (by omega)
  exact h K 0 N (by omega) hN
theorem loop_inv {σ β : Type} {l : Nat → σ → Int32 → Option β} (I : Nat → σ → Prop) {Q : β → Prop} {K : Nat} (hstop : ∀ N s, I K s → ∃ r, l (N + 1) s (nI K) = some r ∧ Q r) (hstep : ∀ N s i, i < K → I i s → (∃ s', I (i + 1) s' ∧ l (N + 1) s (nI i) = l N s' (nI (i + 1))) ∨ (∃ r, l (N + 1) s (nI i) = some r ∧ Q r)) : ∀ (i N : Nat) (s : σ), i ≤ K → K - i < N → I i s → ∃ r, l N s (nI i) = some r ∧ Q r := by
  have h : ∀ d i N s, i + d = K → d < N → I i s → ∃ r, l N s (nI i) = some r ∧ Q r := by
    intro d
    induction d with
    | zero =>
      intro i N s h1 h2 h3
      obtain ⟨N', rfl⟩ : ∃ N', N = N' + 1 := ⟨N - 1, by omega⟩
      have : i = K := by omega
      subst this
      exact hstop N' _ h3
    | succ d ih =>
      intro i N s h1 h2 h3
      obtain ⟨N', rfl⟩ : ∃ N', N = N' + 1 := ⟨N - 1, by omega⟩
      rcases hstep N' s i (by omega) h3 with ⟨s', h4, h5⟩ | h4
      · rw [h5]
        exact ih (i + 1) N' s' (by omega) (by omega) h4
      · exact h4
  intro i N s h1 h2 h3
  exact h (K - i) i N s (by omega) (by omega) h3
theorem loop_rel {σ τ β γ : Type} {l : Nat → σ → Int32 → Option β} {l2 : Nat → τ → Int32 → Option γ} (I : Nat → σ → τ → Prop) {Q : β → γ → Prop} {K : Nat} (hstop : ∀ N N2 s t, I K s t → ∃ r r2, l (N + 1) s (nI K) = some r ∧ l2 (N2 + 1) t (nI K) = some r2 ∧ Q r r2) (hstep : ∀ N N2 s t i, i < K → I i s t → ∃ s' t', I (i + 1) s' t' ∧ l (N + 1) s (nI i) = l N s' (nI (i + 1)) ∧ l2 (N2 + 1) t (nI i) = l2 N2 t' (nI (i + 1))) : ∀ (i N N2 : Nat) (s : σ) (t : τ), i ≤ K → K - i < N → K - i < N2 → I i s t → ∃ r r2, l N s (nI i) = some r ∧ l2 N2 t (nI i) = some r2 ∧ Q r r2 := by
  have h : ∀ d i N N2 s t, i + d = K → d < N → d < N2 → I i s t → ∃ r r2, l N s (nI i) = some r ∧ l2 N2 t (nI i) = some r2 ∧ Q r r2 := by
    intro d
    induction d with
    | zero =>
      intro i N N2 s t h1 h2 h2' h3
      obtain ⟨N', rfl⟩ : ∃ N', N = N' + 1 := ⟨N - 1, by omega⟩
      obtain ⟨N2', rfl⟩ : ∃ N', N2 = N' + 1 := ⟨N2 - 1, by omega⟩
      have : i = K := by omega
      subst this
      exact hstop N' N2' _ _ h3
    | succ d ih =>
      intro i N N2 s t h1 h2 h2' h3
      obtain ⟨N', rfl⟩ : ∃ N', N = N' + 1 := ⟨N - 1, by omega⟩
      obtain ⟨N2', rfl⟩ : ∃ N', N2 = N' + 1 := ⟨N2 - 1, by omega⟩
      obtain ⟨s', t', h4, h5, h6⟩ := hstep N' N2' s t i (by omega) h3
      rw [h5, h6]
      exact ih (i + 1) N' N2' s' t' (by omega) (by omega) (by omega) h4
  intro i N N2 s t h1 h2 h2' h3
  exact h (K - i) i N N2 s t (by omega) (by omega) (by omega) h3
theorem itr_cnt (b : Nat → Bool) (a : Nat) : ∀ k, itr (fun i s => s + bI (b i)) k (nI a) = nI (a + fb_ct b k)
  | 0 => rfl
  | k + 1 => by
    show itr (fun i s => s + bI (b i)) k (nI a) + bI (b k) = _
    rw [itr_cnt b a k, bI_n, nI_add, fb_ct_succ, Nat.add_assoc]
theorem itr_cnt0 (b : Nat → Bool) (k : Nat) : itr (fun i s => s + bI (b i)) k (nI 0) = nI (fb_ct b k) := by
  rw [itr_cnt, Nat.zero_add]
theorem itr_sum (f : Nat → Nat) (a : Nat) : ∀ k, itr (fun i s => s + nI (f i)) k (nI a) = nI (a + fb_sm f k)
  | 0 => rfl
  | k + 1 => by
    show itr (fun i s => s + nI (f i)) k (nI a) + nI (f k) = _
    rw [itr_sum f a k, nI_add, fb_sm_succ, Nat.add_assoc]
theorem itr_sum0 (f : Nat → Nat) (k : Nat) : itr (fun i s => s + nI (f i)) k (nI 0) = nI (fb_sm f k) := by
  rw [itr_sum, Nat.zero_add]
theorem itr_cong {σ : Type} {g g2 : Nat → σ → σ} : ∀ (k : Nat) (s : σ), (∀ i s, i < k → g i s = g2 i s) → itr g k s = itr g2 k s
  | 0, _, _ => rfl
  | k + 1, s, h => by
    show g k (itr g k s) = g2 k (itr g2 k s)
    rw [itr_cong k s (fun i s hi => h i s (Nat.lt_succ_of_lt hi)), h k _ (Nat.lt_succ_self k)]
/-! states: what a put leaves -/
theorem sI_at (c : OS) (j i : Nat) (v : Int32) : (sI c j v).1 i = if i = j then v else c.1 i := rfl
theorem sI_2 (c : OS) (j : Nat) (v : Int32) : (sI c j v).2 = c.2 := rfl
theorem sA_1 (c : OS) (j : Nat) (f : Nat → Int32) : (sA c j f).1 = c.1 := rfl
theorem sA_at (c : OS) (j i : Nat) (f : Nat → Int32) : (sA c j f).2.1 i = if i = j then f else c.2.1 i := rfl
theorem sA_22 (c : OS) (j : Nat) (f : Nat → Int32) : (sA c j f).2.2 = c.2.2 := rfl
theorem sL_1 (c : OS) (j : Nat) (f : Nat → Int64) : (sL c j f).1 = c.1 := rfl
theorem sL_21 (c : OS) (j : Nat) (f : Nat → Int64) : (sL c j f).2.1 = c.2.1 := rfl
theorem sL_at (c : OS) (j i : Nat) (f : Nat → Int64) : (sL c j f).2.2.1 i = if i = j then f else c.2.2.1 i := rfl
theorem sL_222 (c : OS) (j : Nat) (f : Nat → Int64) : (sL c j f).2.2.2 = c.2.2.2 := rfl
theorem sl_1 (c : OS) (j : Nat) (v : Int64) : (sl c j v).1 = c.1 := rfl
theorem sl_21 (c : OS) (j : Nat) (v : Int64) : (sl c j v).2.1 = c.2.1 := rfl
theorem sl_221 (c : OS) (j : Nat) (v : Int64) : (sl c j v).2.2.1 = c.2.2.1 := rfl
theorem sl_at (c : OS) (j i : Nat) (v : Int64) : (sl c j v).2.2.2 i = if i = j then v else c.2.2.2 i := rfl
/-! the tables of the class -/
theorem tget {n cc z v j : Nat} {t : Nat → Int32} (k : Nat) (hk : v * cc + j = k) (h : k < z) (hz : z < 2 ^ 31) : f_X6_get n (nI cc) z t (nI v) (nI j) = some (t k) := by
  have e : nI v * nI cc + nI j = nI k := by rw [pk_mul, nI_add, hk]
  unfold f_X6_get
  rw [e, eLet, if_neg (nI_pos (by omega)), if_neg (show ¬ Int32.ofNat z ≤ nI k from nI_ge (a := k) (b := z) h hz), egN h hz, eLet, nI_clamp (by omega)]
theorem tset {n cc z v j : Nat} {t : Nat → Int32} {x : Int32} (k : Nat) (hk : v * cc + j = k) (h : k < z) (hz : z < 2 ^ 31) : f_X6_set n (nI cc) z t (nI v) (nI j) x = some (upd t k x) := by
  have e : nI v * nI cc + nI j = nI k := by rw [pk_mul, nI_add, hk]
  unfold f_X6_set
  rw [e, eLet, if_neg (nI_pos (by omega)), if_neg (show ¬ Int32.ofNat z ≤ nI k from nI_ge (a := k) (b := z) h hz), egN h hz, eLet, nI_clamp (by omega)]
theorem tadd {n cc z v j : Nat} {t : Nat → Int32} {x : Int32} (k : Nat) (hk : v * cc + j = k) (h : k < z) (hz : z < 2 ^ 31) : f_X6_add n (nI cc) z t (nI v) (nI j) x = some (upd t k (t k + x)) := by
  have e : nI v * nI cc + nI j = nI k := by rw [pk_mul, nI_add, hk]
  unfold f_X6_add
  rw [e, eLet, if_neg (nI_pos (by omega)), if_neg (show ¬ Int32.ofNat z ≤ nI k from nI_ge (a := k) (b := z) h hz), egN h hz, eLet, egN h hz, eLet, nI_clamp (by omega)]
theorem gP0 {n p : Nat} {t : Nat → Int32} (h : p < 8) : f_X6_get n (5 : Int32) 40 t (nI p) (0 : Int32) = some (t (5 * p)) := tget (cc := 5) (z := 40) (v := p) (j := 0) (5 * p) (by omega) (by omega) (by decide)
theorem sP0 {n p : Nat} {t : Nat → Int32} {x : Int32} (h : p < 8) : f_X6_set n (5 : Int32) 40 t (nI p) (0 : Int32) x = some (upd t (5 * p) x) := tset (cc := 5) (z := 40) (v := p) (j := 0) (5 * p) (by omega) (by omega) (by decide)
theorem aP0 {n p : Nat} {t : Nat → Int32} {x : Int32} (h : p < 8) : f_X6_add n (5 : Int32) 40 t (nI p) (0 : Int32) x = some (upd t (5 * p) (t (5 * p) + x)) := tadd (cc := 5) (z := 40) (v := p) (j := 0) (5 * p) (by omega) (by omega) (by decide)
theorem gP1 {n p : Nat} {t : Nat → Int32} (h : p < 8) : f_X6_get n (5 : Int32) 40 t (nI p) (1 : Int32) = some (t (5 * p + 1)) := tget (cc := 5) (z := 40) (v := p) (j := 1) (5 * p + 1) (by omega) (by omega) (by decide)
theorem sP1 {n p : Nat} {t : Nat → Int32} {x : Int32} (h : p < 8) : f_X6_set n (5 : Int32) 40 t (nI p) (1 : Int32) x = some (upd t (5 * p + 1) x) := tset (cc := 5) (z := 40) (v := p) (j := 1) (5 * p + 1) (by omega) (by omega) (by decide)
theorem aP1 {n p : Nat} {t : Nat → Int32} {x : Int32} (h : p < 8) : f_X6_add n (5 : Int32) 40 t (nI p) (1 : Int32) x = some (upd t (5 * p + 1) (t (5 * p + 1) + x)) := tadd (cc := 5) (z := 40) (v := p) (j := 1) (5 * p + 1) (by omega) (by omega) (by decide)
theorem gP2 {n p : Nat} {t : Nat → Int32} (h : p < 8) : f_X6_get n (5 : Int32) 40 t (nI p) (2 : Int32) = some (t (5 * p + 2)) := tget (cc := 5) (z := 40) (v := p) (j := 2) (5 * p + 2) (by omega) (by omega) (by decide)
theorem sP2 {n p : Nat} {t : Nat → Int32} {x : Int32} (h : p < 8) : f_X6_set n (5 : Int32) 40 t (nI p) (2 : Int32) x = some (upd t (5 * p + 2) x) := tset (cc := 5) (z := 40) (v := p) (j := 2) (5 * p + 2) (by omega) (by omega) (by decide)
theorem aP2 {n p : Nat} {t : Nat → Int32} {x : Int32} (h : p < 8) : f_X6_add n (5 : Int32) 40 t (nI p) (2 : Int32) x = some (upd t (5 * p + 2) (t (5 * p + 2) + x)) := tadd (cc := 5) (z := 40) (v := p) (j := 2) (5 * p + 2) (by omega) (by omega) (by decide)
theorem gP3 {n p : Nat} {t : Nat → Int32} (h : p < 8) : f_X6_get n (5 : Int32) 40 t (nI p) (3 : Int32) = some (t (5 * p + 3)) := tget (cc := 5) (z := 40) (v := p) (j := 3) (5 * p + 3) (by omega) (by omega) (by decide)
theorem sP3 {n p : Nat} {t : Nat → Int32} {x : Int32} (h : p < 8) : f_X6_set n (5 : Int32) 40 t (nI p) (3 : Int32) x = some (upd t (5 * p + 3) x) := tset (cc := 5) (z := 40) (v := p) (j := 3) (5 * p + 3) (by omega) (by omega) (by decide)
theorem aP3 {n p : Nat} {t : Nat → Int32} {x : Int32} (h : p < 8) : f_X6_add n (5 : Int32) 40 t (nI p) (3 : Int32) x = some (upd t (5 * p + 3) (t (5 * p + 3) + x)) := tadd (cc := 5) (z := 40) (v := p) (j := 3) (5 * p + 3) (by omega) (by omega) (by decide)
theorem gP4 {n p : Nat} {t : Nat → Int32} (h : p < 8) : f_X6_get n (5 : Int32) 40 t (nI p) (4 : Int32) = some (t (5 * p + 4)) := tget (cc := 5) (z := 40) (v := p) (j := 4) (5 * p + 4) (by omega) (by omega) (by decide)
theorem sP4 {n p : Nat} {t : Nat → Int32} {x : Int32} (h : p < 8) : f_X6_set n (5 : Int32) 40 t (nI p) (4 : Int32) x = some (upd t (5 * p + 4) x) := tset (cc := 5) (z := 40) (v := p) (j := 4) (5 * p + 4) (by omega) (by omega) (by decide)
theorem aP4 {n p : Nat} {t : Nat → Int32} {x : Int32} (h : p < 8) : f_X6_add n (5 : Int32) 40 t (nI p) (4 : Int32) x = some (upd t (5 * p + 4) (t (5 * p + 4) + x)) := tadd (cc := 5) (z := 40) (v := p) (j := 4) (5 * p + 4) (by omega) (by omega) (by decide)
theorem gL0 {n l : Nat} {t : Nat → Int32} (h : l < 80) : f_X6_get n (8 : Int32) 640 t (nI l) (0 : Int32) = some (t (8 * l)) := tget (cc := 8) (z := 640) (v := l) (j := 0) (8 * l) (by omega) (by omega) (by decide)
theorem sL0 {n l : Nat} {t : Nat → Int32} {x : Int32} (h : l < 80) : f_X6_set n (8 : Int32) 640 t (nI l) (0 : Int32) x = some (upd t (8 * l) x) := tset (cc := 8) (z := 640) (v := l) (j := 0) (8 * l) (by omega) (by omega) (by decide)
theorem aL0 {n l : Nat} {t : Nat → Int32} {x : Int32} (h : l < 80) : f_X6_add n (8 : Int32) 640 t (nI l) (0 : Int32) x = some (upd t (8 * l) (t (8 * l) + x)) := tadd (cc := 8) (z := 640) (v := l) (j := 0) (8 * l) (by omega) (by omega) (by decide)
theorem gL1 {n l : Nat} {t : Nat → Int32} (h : l < 80) : f_X6_get n (8 : Int32) 640 t (nI l) (1 : Int32) = some (t (8 * l + 1)) := tget (cc := 8) (z := 640) (v := l) (j := 1) (8 * l + 1) (by omega) (by omega) (by decide)
theorem sL1 {n l : Nat} {t : Nat → Int32} {x : Int32} (h : l < 80) : f_X6_set n (8 : Int32) 640 t (nI l) (1 : Int32) x = some (upd t (8 * l + 1) x) := tset (cc := 8) (z := 640) (v := l) (j := 1) (8 * l + 1) (by omega) (by omega) (by decide)
theorem aL1 {n l : Nat} {t : Nat → Int32} {x : Int32} (h : l < 80) : f_X6_add n (8 : Int32) 640 t (nI l) (1 : Int32) x = some (upd t (8 * l + 1) (t (8 * l + 1) + x)) := tadd (cc := 8) (z := 640) (v := l) (j := 1) (8 * l + 1) (by omega) (by omega) (by decide)
theorem gL2 {n l : Nat} {t : Nat → Int32} (h : l < 80) : f_X6_get n (8 : Int32) 640 t (nI l) (2 : Int32) = some (t (8 * l + 2)) := tget (cc := 8) (z := 640) (v := l) (j := 2) (8 * l + 2) (by omega) (by omega) (by decide)
theorem sL2 {n l : Nat} {t : Nat → Int32} {x : Int32} (h : l < 80) : f_X6_set n (8 : Int32) 640 t (nI l) (2 : Int32) x = some (upd t (8 * l + 2) x) := tset (cc := 8) (z := 640) (v := l) (j := 2) (8 * l + 2) (by omega) (by omega) (by decide)
theorem aL2 {n l : Nat} {t : Nat → Int32} {x : Int32} (h : l < 80) : f_X6_add n (8 : Int32) 640 t (nI l) (2 : Int32) x = some (upd t (8 * l + 2) (t (8 * l + 2) + x)) := tadd (cc := 8) (z := 640) (v := l) (j := 2) (8 * l + 2) (by omega) (by omega) (by decide)
theorem gL3 {n l : Nat} {t : Nat → Int32} (h : l < 80) : f_X6_get n (8 : Int32) 640 t (nI l) (3 : Int32) = some (t (8 * l + 3)) := tget (cc := 8) (z := 640) (v := l) (j := 3) (8 * l + 3) (by omega) (by omega) (by decide)
theorem sL3 {n l : Nat} {t : Nat → Int32} {x : Int32} (h : l < 80) : f_X6_set n (8 : Int32) 640 t (nI l) (3 : Int32) x = some (upd t (8 * l + 3) x) := tset (cc := 8) (z := 640) (v := l) (j := 3) (8 * l + 3) (by omega) (by omega) (by decide)
theorem aL3 {n l : Nat} {t : Nat → Int32} {x : Int32} (h : l < 80) : f_X6_add n (8 : Int32) 640 t (nI l) (3 : Int32) x = some (upd t (8 * l + 3) (t (8 * l + 3) + x)) := tadd (cc := 8) (z := 640) (v := l) (j := 3) (8 * l + 3) (by omega) (by omega) (by decide)
theorem gL4 {n l : Nat} {t : Nat → Int32} (h : l < 80) : f_X6_get n (8 : Int32) 640 t (nI l) (4 : Int32) = some (t (8 * l + 4)) := tget (cc := 8) (z := 640) (v := l) (j := 4) (8 * l + 4) (by omega) (by omega) (by decide)
theorem sL4 {n l : Nat} {t : Nat → Int32} {x : Int32} (h : l < 80) : f_X6_set n (8 : Int32) 640 t (nI l) (4 : Int32) x = some (upd t (8 * l + 4) x) := tset (cc := 8) (z := 640) (v := l) (j := 4) (8 * l + 4) (by omega) (by omega) (by decide)
theorem aL4 {n l : Nat} {t : Nat → Int32} {x : Int32} (h : l < 80) : f_X6_add n (8 : Int32) 640 t (nI l) (4 : Int32) x = some (upd t (8 * l + 4) (t (8 * l + 4) + x)) := tadd (cc := 8) (z := 640) (v := l) (j := 4) (8 * l + 4) (by omega) (by omega) (by decide)
theorem gL5 {n l : Nat} {t : Nat → Int32} (h : l < 80) : f_X6_get n (8 : Int32) 640 t (nI l) (5 : Int32) = some (t (8 * l + 5)) := tget (cc := 8) (z := 640) (v := l) (j := 5) (8 * l + 5) (by omega) (by omega) (by decide)
theorem sL5 {n l : Nat} {t : Nat → Int32} {x : Int32} (h : l < 80) : f_X6_set n (8 : Int32) 640 t (nI l) (5 : Int32) x = some (upd t (8 * l + 5) x) := tset (cc := 8) (z := 640) (v := l) (j := 5) (8 * l + 5) (by omega) (by omega) (by decide)
theorem aL5 {n l : Nat} {t : Nat → Int32} {x : Int32} (h : l < 80) : f_X6_add n (8 : Int32) 640 t (nI l) (5 : Int32) x = some (upd t (8 * l + 5) (t (8 * l + 5) + x)) := tadd (cc := 8) (z := 640) (v := l) (j := 5) (8 * l + 5) (by omega) (by omega) (by decide)
theorem gL6 {n l : Nat} {t : Nat → Int32} (h : l < 80) : f_X6_get n (8 : Int32) 640 t (nI l) (6 : Int32) = some (t (8 * l + 6)) := tget (cc := 8) (z := 640) (v := l) (j := 6) (8 * l + 6) (by omega) (by omega) (by decide)
theorem sL6 {n l : Nat} {t : Nat → Int32} {x : Int32} (h : l < 80) : f_X6_set n (8 : Int32) 640 t (nI l) (6 : Int32) x = some (upd t (8 * l + 6) x) := tset (cc := 8) (z := 640) (v := l) (j := 6) (8 * l + 6) (by omega) (by omega) (by decide)
theorem aL6 {n l : Nat} {t : Nat → Int32} {x : Int32} (h : l < 80) : f_X6_add n (8 : Int32) 640 t (nI l) (6 : Int32) x = some (upd t (8 * l + 6) (t (8 * l + 6) + x)) := tadd (cc := 8) (z := 640) (v := l) (j := 6) (8 * l + 6) (by omega) (by omega) (by decide)
theorem gL7 {n l : Nat} {t : Nat → Int32} (h : l < 80) : f_X6_get n (8 : Int32) 640 t (nI l) (7 : Int32) = some (t (8 * l + 7)) := tget (cc := 8) (z := 640) (v := l) (j := 7) (8 * l + 7) (by omega) (by omega) (by decide)
theorem sL7 {n l : Nat} {t : Nat → Int32} {x : Int32} (h : l < 80) : f_X6_set n (8 : Int32) 640 t (nI l) (7 : Int32) x = some (upd t (8 * l + 7) x) := tset (cc := 8) (z := 640) (v := l) (j := 7) (8 * l + 7) (by omega) (by omega) (by decide)
theorem aL7 {n l : Nat} {t : Nat → Int32} {x : Int32} (h : l < 80) : f_X6_add n (8 : Int32) 640 t (nI l) (7 : Int32) x = some (upd t (8 * l + 7) (t (8 * l + 7) + x)) := tadd (cc := 8) (z := 640) (v := l) (j := 7) (8 * l + 7) (by omega) (by omega) (by decide)
theorem gC0 {n q : Nat} {t : Nat → Int32} (h : q < 60) : f_X6_get n (7 : Int32) 420 t (nI q) (0 : Int32) = some (t (7 * q)) := tget (cc := 7) (z := 420) (v := q) (j := 0) (7 * q) (by omega) (by omega) (by decide)
theorem sC0 {n q : Nat} {t : Nat → Int32} {x : Int32} (h : q < 60) : f_X6_set n (7 : Int32) 420 t (nI q) (0 : Int32) x = some (upd t (7 * q) x) := tset (cc := 7) (z := 420) (v := q) (j := 0) (7 * q) (by omega) (by omega) (by decide)
theorem aC0 {n q : Nat} {t : Nat → Int32} {x : Int32} (h : q < 60) : f_X6_add n (7 : Int32) 420 t (nI q) (0 : Int32) x = some (upd t (7 * q) (t (7 * q) + x)) := tadd (cc := 7) (z := 420) (v := q) (j := 0) (7 * q) (by omega) (by omega) (by decide)
theorem gC1 {n q : Nat} {t : Nat → Int32} (h : q < 60) : f_X6_get n (7 : Int32) 420 t (nI q) (1 : Int32) = some (t (7 * q + 1)) := tget (cc := 7) (z := 420) (v := q) (j := 1) (7 * q + 1) (by omega) (by omega) (by decide)
theorem sC1 {n q : Nat} {t : Nat → Int32} {x : Int32} (h : q < 60) : f_X6_set n (7 : Int32) 420 t (nI q) (1 : Int32) x = some (upd t (7 * q + 1) x) := tset (cc := 7) (z := 420) (v := q) (j := 1) (7 * q + 1) (by omega) (by omega) (by decide)
theorem aC1 {n q : Nat} {t : Nat → Int32} {x : Int32} (h : q < 60) : f_X6_add n (7 : Int32) 420 t (nI q) (1 : Int32) x = some (upd t (7 * q + 1) (t (7 * q + 1) + x)) := tadd (cc := 7) (z := 420) (v := q) (j := 1) (7 * q + 1) (by omega) (by omega) (by decide)
theorem gC2 {n q : Nat} {t : Nat → Int32} (h : q < 60) : f_X6_get n (7 : Int32) 420 t (nI q) (2 : Int32) = some (t (7 * q + 2)) := tget (cc := 7) (z := 420) (v := q) (j := 2) (7 * q + 2) (by omega) (by omega) (by decide)
theorem sC2 {n q : Nat} {t : Nat → Int32} {x : Int32} (h : q < 60) : f_X6_set n (7 : Int32) 420 t (nI q) (2 : Int32) x = some (upd t (7 * q + 2) x) := tset (cc := 7) (z := 420) (v := q) (j := 2) (7 * q + 2) (by omega) (by omega) (by decide)
theorem aC2 {n q : Nat} {t : Nat → Int32} {x : Int32} (h : q < 60) : f_X6_add n (7 : Int32) 420 t (nI q) (2 : Int32) x = some (upd t (7 * q + 2) (t (7 * q + 2) + x)) := tadd (cc := 7) (z := 420) (v := q) (j := 2) (7 * q + 2) (by omega) (by omega) (by decide)
theorem gC3 {n q : Nat} {t : Nat → Int32} (h : q < 60) : f_X6_get n (7 : Int32) 420 t (nI q) (3 : Int32) = some (t (7 * q + 3)) := tget (cc := 7) (z := 420) (v := q) (j := 3) (7 * q + 3) (by omega) (by omega) (by decide)
theorem sC3 {n q : Nat} {t : Nat → Int32} {x : Int32} (h : q < 60) : f_X6_set n (7 : Int32) 420 t (nI q) (3 : Int32) x = some (upd t (7 * q + 3) x) := tset (cc := 7) (z := 420) (v := q) (j := 3) (7 * q + 3) (by omega) (by omega) (by decide)
theorem aC3 {n q : Nat} {t : Nat → Int32} {x : Int32} (h : q < 60) : f_X6_add n (7 : Int32) 420 t (nI q) (3 : Int32) x = some (upd t (7 * q + 3) (t (7 * q + 3) + x)) := tadd (cc := 7) (z := 420) (v := q) (j := 3) (7 * q + 3) (by omega) (by omega) (by decide)
theorem gC4 {n q : Nat} {t : Nat → Int32} (h : q < 60) : f_X6_get n (7 : Int32) 420 t (nI q) (4 : Int32) = some (t (7 * q + 4)) := tget (cc := 7) (z := 420) (v := q) (j := 4) (7 * q + 4) (by omega) (by omega) (by decide)
theorem sC4 {n q : Nat} {t : Nat → Int32} {x : Int32} (h : q < 60) : f_X6_set n (7 : Int32) 420 t (nI q) (4 : Int32) x = some (upd t (7 * q + 4) x) := tset (cc := 7) (z := 420) (v := q) (j := 4) (7 * q + 4) (by omega) (by omega) (by decide)
theorem aC4 {n q : Nat} {t : Nat → Int32} {x : Int32} (h : q < 60) : f_X6_add n (7 : Int32) 420 t (nI q) (4 : Int32) x = some (upd t (7 * q + 4) (t (7 * q + 4) + x)) := tadd (cc := 7) (z := 420) (v := q) (j := 4) (7 * q + 4) (by omega) (by omega) (by decide)
theorem gC5 {n q : Nat} {t : Nat → Int32} (h : q < 60) : f_X6_get n (7 : Int32) 420 t (nI q) (5 : Int32) = some (t (7 * q + 5)) := tget (cc := 7) (z := 420) (v := q) (j := 5) (7 * q + 5) (by omega) (by omega) (by decide)
theorem sC5 {n q : Nat} {t : Nat → Int32} {x : Int32} (h : q < 60) : f_X6_set n (7 : Int32) 420 t (nI q) (5 : Int32) x = some (upd t (7 * q + 5) x) := tset (cc := 7) (z := 420) (v := q) (j := 5) (7 * q + 5) (by omega) (by omega) (by decide)
theorem aC5 {n q : Nat} {t : Nat → Int32} {x : Int32} (h : q < 60) : f_X6_add n (7 : Int32) 420 t (nI q) (5 : Int32) x = some (upd t (7 * q + 5) (t (7 * q + 5) + x)) := tadd (cc := 7) (z := 420) (v := q) (j := 5) (7 * q + 5) (by omega) (by omega) (by decide)
theorem gC6 {n q : Nat} {t : Nat → Int32} (h : q < 60) : f_X6_get n (7 : Int32) 420 t (nI q) (6 : Int32) = some (t (7 * q + 6)) := tget (cc := 7) (z := 420) (v := q) (j := 6) (7 * q + 6) (by omega) (by omega) (by decide)
theorem sC6 {n q : Nat} {t : Nat → Int32} {x : Int32} (h : q < 60) : f_X6_set n (7 : Int32) 420 t (nI q) (6 : Int32) x = some (upd t (7 * q + 6) x) := tset (cc := 7) (z := 420) (v := q) (j := 6) (7 * q + 6) (by omega) (by omega) (by decide)
theorem aC6 {n q : Nat} {t : Nat → Int32} {x : Int32} (h : q < 60) : f_X6_add n (7 : Int32) 420 t (nI q) (6 : Int32) x = some (upd t (7 * q + 6) (t (7 * q + 6) + x)) := tadd (cc := 7) (z := 420) (v := q) (j := 6) (7 * q + 6) (by omega) (by omega) (by decide)
theorem gF0 {n r : Nat} {t : Nat → Int32} (h : r < 40) : f_X6_get n (8 : Int32) 320 t (nI r) (0 : Int32) = some (t (8 * r)) := tget (cc := 8) (z := 320) (v := r) (j := 0) (8 * r) (by omega) (by omega) (by decide)
theorem sF0 {n r : Nat} {t : Nat → Int32} {x : Int32} (h : r < 40) : f_X6_set n (8 : Int32) 320 t (nI r) (0 : Int32) x = some (upd t (8 * r) x) := tset (cc := 8) (z := 320) (v := r) (j := 0) (8 * r) (by omega) (by omega) (by decide)
theorem aF0 {n r : Nat} {t : Nat → Int32} {x : Int32} (h : r < 40) : f_X6_add n (8 : Int32) 320 t (nI r) (0 : Int32) x = some (upd t (8 * r) (t (8 * r) + x)) := tadd (cc := 8) (z := 320) (v := r) (j := 0) (8 * r) (by omega) (by omega) (by decide)
theorem gF1 {n r : Nat} {t : Nat → Int32} (h : r < 40) : f_X6_get n (8 : Int32) 320 t (nI r) (1 : Int32) = some (t (8 * r + 1)) := tget (cc := 8) (z := 320) (v := r) (j := 1) (8 * r + 1) (by omega) (by omega) (by decide)
theorem sF1 {n r : Nat} {t : Nat → Int32} {x : Int32} (h : r < 40) : f_X6_set n (8 : Int32) 320 t (nI r) (1 : Int32) x = some (upd t (8 * r + 1) x) := tset (cc := 8) (z := 320) (v := r) (j := 1) (8 * r + 1) (by omega) (by omega) (by decide)
theorem aF1 {n r : Nat} {t : Nat → Int32} {x : Int32} (h : r < 40) : f_X6_add n (8 : Int32) 320 t (nI r) (1 : Int32) x = some (upd t (8 * r + 1) (t (8 * r + 1) + x)) := tadd (cc := 8) (z := 320) (v := r) (j := 1) (8 * r + 1) (by omega) (by omega) (by decide)
theorem gF2 {n r : Nat} {t : Nat → Int32} (h : r < 40) : f_X6_get n (8 : Int32) 320 t (nI r) (2 : Int32) = some (t (8 * r + 2)) := tget (cc := 8) (z := 320) (v := r) (j := 2) (8 * r + 2) (by omega) (by omega) (by decide)
theorem sF2 {n r : Nat} {t : Nat → Int32} {x : Int32} (h : r < 40) : f_X6_set n (8 : Int32) 320 t (nI r) (2 : Int32) x = some (upd t (8 * r + 2) x) := tset (cc := 8) (z := 320) (v := r) (j := 2) (8 * r + 2) (by omega) (by omega) (by decide)
theorem aF2 {n r : Nat} {t : Nat → Int32} {x : Int32} (h : r < 40) : f_X6_add n (8 : Int32) 320 t (nI r) (2 : Int32) x = some (upd t (8 * r + 2) (t (8 * r + 2) + x)) := tadd (cc := 8) (z := 320) (v := r) (j := 2) (8 * r + 2) (by omega) (by omega) (by decide)
theorem gF3 {n r : Nat} {t : Nat → Int32} (h : r < 40) : f_X6_get n (8 : Int32) 320 t (nI r) (3 : Int32) = some (t (8 * r + 3)) := tget (cc := 8) (z := 320) (v := r) (j := 3) (8 * r + 3) (by omega) (by omega) (by decide)
theorem sF3 {n r : Nat} {t : Nat → Int32} {x : Int32} (h : r < 40) : f_X6_set n (8 : Int32) 320 t (nI r) (3 : Int32) x = some (upd t (8 * r + 3) x) := tset (cc := 8) (z := 320) (v := r) (j := 3) (8 * r + 3) (by omega) (by omega) (by decide)
theorem aF3 {n r : Nat} {t : Nat → Int32} {x : Int32} (h : r < 40) : f_X6_add n (8 : Int32) 320 t (nI r) (3 : Int32) x = some (upd t (8 * r + 3) (t (8 * r + 3) + x)) := tadd (cc := 8) (z := 320) (v := r) (j := 3) (8 * r + 3) (by omega) (by omega) (by decide)
theorem gF4 {n r : Nat} {t : Nat → Int32} (h : r < 40) : f_X6_get n (8 : Int32) 320 t (nI r) (4 : Int32) = some (t (8 * r + 4)) := tget (cc := 8) (z := 320) (v := r) (j := 4) (8 * r + 4) (by omega) (by omega) (by decide)
theorem sF4 {n r : Nat} {t : Nat → Int32} {x : Int32} (h : r < 40) : f_X6_set n (8 : Int32) 320 t (nI r) (4 : Int32) x = some (upd t (8 * r + 4) x) := tset (cc := 8) (z := 320) (v := r) (j := 4) (8 * r + 4) (by omega) (by omega) (by decide)
theorem aF4 {n r : Nat} {t : Nat → Int32} {x : Int32} (h : r < 40) : f_X6_add n (8 : Int32) 320 t (nI r) (4 : Int32) x = some (upd t (8 * r + 4) (t (8 * r + 4) + x)) := tadd (cc := 8) (z := 320) (v := r) (j := 4) (8 * r + 4) (by omega) (by omega) (by decide)
theorem gF5 {n r : Nat} {t : Nat → Int32} (h : r < 40) : f_X6_get n (8 : Int32) 320 t (nI r) (5 : Int32) = some (t (8 * r + 5)) := tget (cc := 8) (z := 320) (v := r) (j := 5) (8 * r + 5) (by omega) (by omega) (by decide)
theorem sF5 {n r : Nat} {t : Nat → Int32} {x : Int32} (h : r < 40) : f_X6_set n (8 : Int32) 320 t (nI r) (5 : Int32) x = some (upd t (8 * r + 5) x) := tset (cc := 8) (z := 320) (v := r) (j := 5) (8 * r + 5) (by omega) (by omega) (by decide)
theorem aF5 {n r : Nat} {t : Nat → Int32} {x : Int32} (h : r < 40) : f_X6_add n (8 : Int32) 320 t (nI r) (5 : Int32) x = some (upd t (8 * r + 5) (t (8 * r + 5) + x)) := tadd (cc := 8) (z := 320) (v := r) (j := 5) (8 * r + 5) (by omega) (by omega) (by decide)
theorem gF6 {n r : Nat} {t : Nat → Int32} (h : r < 40) : f_X6_get n (8 : Int32) 320 t (nI r) (6 : Int32) = some (t (8 * r + 6)) := tget (cc := 8) (z := 320) (v := r) (j := 6) (8 * r + 6) (by omega) (by omega) (by decide)
theorem sF6 {n r : Nat} {t : Nat → Int32} {x : Int32} (h : r < 40) : f_X6_set n (8 : Int32) 320 t (nI r) (6 : Int32) x = some (upd t (8 * r + 6) x) := tset (cc := 8) (z := 320) (v := r) (j := 6) (8 * r + 6) (by omega) (by omega) (by decide)
theorem aF6 {n r : Nat} {t : Nat → Int32} {x : Int32} (h : r < 40) : f_X6_add n (8 : Int32) 320 t (nI r) (6 : Int32) x = some (upd t (8 * r + 6) (t (8 * r + 6) + x)) := tadd (cc := 8) (z := 320) (v := r) (j := 6) (8 * r + 6) (by omega) (by omega) (by decide)
theorem gF7 {n r : Nat} {t : Nat → Int32} (h : r < 40) : f_X6_get n (8 : Int32) 320 t (nI r) (7 : Int32) = some (t (8 * r + 7)) := tget (cc := 8) (z := 320) (v := r) (j := 7) (8 * r + 7) (by omega) (by omega) (by decide)
theorem sF7 {n r : Nat} {t : Nat → Int32} {x : Int32} (h : r < 40) : f_X6_set n (8 : Int32) 320 t (nI r) (7 : Int32) x = some (upd t (8 * r + 7) x) := tset (cc := 8) (z := 320) (v := r) (j := 7) (8 * r + 7) (by omega) (by omega) (by decide)
theorem aF7 {n r : Nat} {t : Nat → Int32} {x : Int32} (h : r < 40) : f_X6_add n (8 : Int32) 320 t (nI r) (7 : Int32) x = some (upd t (8 * r + 7) (t (8 * r + 7) + x)) := tadd (cc := 8) (z := 320) (v := r) (j := 7) (8 * r + 7) (by omega) (by omega) (by decide)
/-! the model's row -/
theorem ix2 (a b p j : Nat) : nI a + nI b * nI p + nI j = nI (a + b * p + j) := by rw [pk_mul, nI_add, nI_add]
theorem ix1 (a b p : Nat) : nI a + nI b * nI p = nI (a + b * p) := by rw [pk_mul, nI_add]
theorem m_pr {n p j : Nat} {M : OS} (hp : p < 8) (hj : j < 6) : f_X9_process0 n M (nI p) (nI j) = some (M.2.1 9 (10 + 6 * p + j)) := by
  have e : (10 : Int32) + (6 : Int32) * nI p + nI j = nI (10 + 6 * p + j) := ix2 10 6 p j
  unfold f_X9_process0
  rw [e, egN (by omega) (by decide), eLet, nI_clamp (by omega)]
theorem m_sp {n p j : Nat} {M : OS} {x : Int32} (hp : p < 8) (hj : j < 6) : f_X9_sets n M (nI p) (nI j) x = some (sA M 9 (upd (M.2.1 9) (10 + 6 * p + j) x)) := by
  have e : (10 : Int32) + (6 : Int32) * nI p + nI j = nI (10 + 6 * p + j) := ix2 10 6 p j
  unfold f_X9_sets
  rw [e, egN (by omega) (by decide), eLet, nI_clamp (by omega)]
theorem m_ln {n l j : Nat} {M : OS} (hl : l < 80) (hj : j < 6) : f_X9_loan0 n M (nI l) (nI j) = some (M.2.1 9 (58 + 6 * l + j)) := by
  have e : (58 : Int32) + (6 : Int32) * nI l + nI j = nI (58 + 6 * l + j) := ix2 58 6 l j
  unfold f_X9_loan0
  rw [e, egN (by omega) (by decide), eLet, nI_clamp (by omega)]
theorem m_cl {n q j : Nat} {M : OS} (hq : q < 60) (hj : j < 7) : f_X9_claim0 n M (nI q) (nI j) = some (M.2.1 9 (602 + 7 * q + j)) := by
  have e : (602 : Int32) + (7 : Int32) * nI q + nI j = nI (602 + 7 * q + j) := ix2 602 7 q j
  unfold f_X9_claim0
  rw [e, egN (by omega) (by decide), eLet, nI_clamp (by omega)]
theorem rm40 {f : Nat} (hf : f < 2 ^ 31) : rm32 (nI f) (40 : Int32) = nI (f % 40) := pk_rem (d := 40) hf (by decide) (by decide)
theorem m_fa {n f : Nat} (hf : f < 2 ^ 31) : f_X9_fineAt n (nI f) = some (nI (1022 + 8 * (f % 40))) := by
  unfold f_X9_fineAt
  rw [rm40 hf]
  exact congrArg some (ix1 1022 8 (f % 40))
theorem m_fn {n f j : Nat} {M : OS} (hf : f < 2 ^ 31) (hj : j < 8) : f_X9_fine0 n M (nI f) (nI j) = some (M.2.1 9 (1022 + 8 * (f % 40) + j)) := by
  have h40 : f % 40 < 40 := Nat.mod_lt _ (by decide)
  unfold f_X9_fine0
  rw [m_fa hf, ebnd, nI_add, egN (by omega) (by decide), eLet, nI_clamp (by omega)]
theorem mP0 {n p : Nat} {M : OS} (hp : p < 8) : f_X9_process0 n M (nI p) (0 : Int32) = some (M.2.1 9 (10 + 6 * p)) := m_pr (j := 0) hp (by decide)
theorem mS0 {n p : Nat} {M : OS} {x : Int32} (hp : p < 8) : f_X9_sets n M (nI p) (0 : Int32) x = some (sA M 9 (upd (M.2.1 9) (10 + 6 * p) x)) := m_sp (j := 0) hp (by decide)
theorem mL0 {n l : Nat} {M : OS} (hl : l < 80) : f_X9_loan0 n M (nI l) (0 : Int32) = some (M.2.1 9 (58 + 6 * l)) := m_ln (j := 0) hl (by decide)
theorem mP1 {n p : Nat} {M : OS} (hp : p < 8) : f_X9_process0 n M (nI p) (1 : Int32) = some (M.2.1 9 (10 + 6 * p + 1)) := m_pr (j := 1) hp (by decide)
theorem mS1 {n p : Nat} {M : OS} {x : Int32} (hp : p < 8) : f_X9_sets n M (nI p) (1 : Int32) x = some (sA M 9 (upd (M.2.1 9) (10 + 6 * p + 1) x)) := m_sp (j := 1) hp (by decide)
theorem mL1 {n l : Nat} {M : OS} (hl : l < 80) : f_X9_loan0 n M (nI l) (1 : Int32) = some (M.2.1 9 (58 + 6 * l + 1)) := m_ln (j := 1) hl (by decide)
theorem mP2 {n p : Nat} {M : OS} (hp : p < 8) : f_X9_process0 n M (nI p) (2 : Int32) = some (M.2.1 9 (10 + 6 * p + 2)) := m_pr (j := 2) hp (by decide)
theorem mS2 {n p : Nat} {M : OS} {x : Int32} (hp : p < 8) : f_X9_sets n M (nI p) (2 : Int32) x = some (sA M 9 (upd (M.2.1 9) (10 + 6 * p + 2) x)) := m_sp (j := 2) hp (by decide)
theorem mL2 {n l : Nat} {M : OS} (hl : l < 80) : f_X9_loan0 n M (nI l) (2 : Int32) = some (M.2.1 9 (58 + 6 * l + 2)) := m_ln (j := 2) hl (by decide)
theorem mP3 {n p : Nat} {M : OS} (hp : p < 8) : f_X9_process0 n M (nI p) (3 : Int32) = some (M.2.1 9 (10 + 6 * p + 3)) := m_pr (j := 3) hp (by decide)
theorem mS3 {n p : Nat} {M : OS} {x : Int32} (hp : p < 8) : f_X9_sets n M (nI p) (3 : Int32) x = some (sA M 9 (upd (M.2.1 9) (10 + 6 * p + 3) x)) := m_sp (j := 3) hp (by decide)
theorem mL3 {n l : Nat} {M : OS} (hl : l < 80) : f_X9_loan0 n M (nI l) (3 : Int32) = some (M.2.1 9 (58 + 6 * l + 3)) := m_ln (j := 3) hl (by decide)
theorem mP4 {n p : Nat} {M : OS} (hp : p < 8) : f_X9_process0 n M (nI p) (4 : Int32) = some (M.2.1 9 (10 + 6 * p + 4)) := m_pr (j := 4) hp (by decide)
theorem mS4 {n p : Nat} {M : OS} {x : Int32} (hp : p < 8) : f_X9_sets n M (nI p) (4 : Int32) x = some (sA M 9 (upd (M.2.1 9) (10 + 6 * p + 4) x)) := m_sp (j := 4) hp (by decide)
theorem mL4 {n l : Nat} {M : OS} (hl : l < 80) : f_X9_loan0 n M (nI l) (4 : Int32) = some (M.2.1 9 (58 + 6 * l + 4)) := m_ln (j := 4) hl (by decide)
theorem mP5 {n p : Nat} {M : OS} (hp : p < 8) : f_X9_process0 n M (nI p) (5 : Int32) = some (M.2.1 9 (10 + 6 * p + 5)) := m_pr (j := 5) hp (by decide)
theorem mS5 {n p : Nat} {M : OS} {x : Int32} (hp : p < 8) : f_X9_sets n M (nI p) (5 : Int32) x = some (sA M 9 (upd (M.2.1 9) (10 + 6 * p + 5) x)) := m_sp (j := 5) hp (by decide)
theorem mL5 {n l : Nat} {M : OS} (hl : l < 80) : f_X9_loan0 n M (nI l) (5 : Int32) = some (M.2.1 9 (58 + 6 * l + 5)) := m_ln (j := 5) hl (by decide)
theorem mC0 {n q : Nat} {M : OS} (hq : q < 60) : f_X9_claim0 n M (nI q) (0 : Int32) = some (M.2.1 9 (602 + 7 * q)) := m_cl (j := 0) hq (by decide)
theorem mC1 {n q : Nat} {M : OS} (hq : q < 60) : f_X9_claim0 n M (nI q) (1 : Int32) = some (M.2.1 9 (602 + 7 * q + 1)) := m_cl (j := 1) hq (by decide)
theorem mC2 {n q : Nat} {M : OS} (hq : q < 60) : f_X9_claim0 n M (nI q) (2 : Int32) = some (M.2.1 9 (602 + 7 * q + 2)) := m_cl (j := 2) hq (by decide)
theorem mC3 {n q : Nat} {M : OS} (hq : q < 60) : f_X9_claim0 n M (nI q) (3 : Int32) = some (M.2.1 9 (602 + 7 * q + 3)) := m_cl (j := 3) hq (by decide)
theorem mC4 {n q : Nat} {M : OS} (hq : q < 60) : f_X9_claim0 n M (nI q) (4 : Int32) = some (M.2.1 9 (602 + 7 * q + 4)) := m_cl (j := 4) hq (by decide)
theorem mC5 {n q : Nat} {M : OS} (hq : q < 60) : f_X9_claim0 n M (nI q) (5 : Int32) = some (M.2.1 9 (602 + 7 * q + 5)) := m_cl (j := 5) hq (by decide)
theorem mC6 {n q : Nat} {M : OS} (hq : q < 60) : f_X9_claim0 n M (nI q) (6 : Int32) = some (M.2.1 9 (602 + 7 * q + 6)) := m_cl (j := 6) hq (by decide)
theorem mF0 {n f : Nat} {M : OS} (hf : f < 2 ^ 31) : f_X9_fine0 n M (nI f) (0 : Int32) = some (M.2.1 9 (1022 + 8 * (f % 40))) := m_fn (j := 0) hf (by decide)
theorem mF1 {n f : Nat} {M : OS} (hf : f < 2 ^ 31) : f_X9_fine0 n M (nI f) (1 : Int32) = some (M.2.1 9 (1022 + 8 * (f % 40) + 1)) := m_fn (j := 1) hf (by decide)
theorem mF2 {n f : Nat} {M : OS} (hf : f < 2 ^ 31) : f_X9_fine0 n M (nI f) (2 : Int32) = some (M.2.1 9 (1022 + 8 * (f % 40) + 2)) := m_fn (j := 2) hf (by decide)
theorem mF3 {n f : Nat} {M : OS} (hf : f < 2 ^ 31) : f_X9_fine0 n M (nI f) (3 : Int32) = some (M.2.1 9 (1022 + 8 * (f % 40) + 3)) := m_fn (j := 3) hf (by decide)
theorem mF4 {n f : Nat} {M : OS} (hf : f < 2 ^ 31) : f_X9_fine0 n M (nI f) (4 : Int32) = some (M.2.1 9 (1022 + 8 * (f % 40) + 4)) := m_fn (j := 4) hf (by decide)
theorem mF5 {n f : Nat} {M : OS} (hf : f < 2 ^ 31) : f_X9_fine0 n M (nI f) (5 : Int32) = some (M.2.1 9 (1022 + 8 * (f % 40) + 5)) := m_fn (j := 5) hf (by decide)
theorem mF6 {n f : Nat} {M : OS} (hf : f < 2 ^ 31) : f_X9_fine0 n M (nI f) (6 : Int32) = some (M.2.1 9 (1022 + 8 * (f % 40) + 6)) := m_fn (j := 6) hf (by decide)
theorem mF7 {n f : Nat} {M : OS} (hf : f < 2 ^ 31) : f_X9_fine0 n M (nI f) (7 : Int32) = some (M.2.1 9 (1022 + 8 * (f % 40) + 7)) := m_fn (j := 7) hf (by decide)
/-- a place of the row, known -/
theorem g18 {β : Type} {k : Nat} {o : Option β} (h : k < 1846) : gI 1846 (nI k) o = o := egN h (by decide)
theorem nI_zle {k : Nat} (h : k = 0) : nI k ≤ 0 := by
  subst h
  exact Int32.le_refl _
theorem gz0 {β : Type} {m : Nat → Int32} {f : Int32 → Option β} : gI 1846 (0 : Int32) (Let (m (0 : Int32).toNatClampNeg) f) = f (m 0) := by
  show gI 1846 (nI 0) (Let (m (nI 0).toNatClampNeg) f) = f (m 0)
  rw [egN (by decide) (by decide), eLet, nI_clamp (by decide)]
theorem hz0 {β : Type} {M : OS} {u : Nat → Int32} {x : Int32} {f : OS → Option β} : gI 1846 (0 : Int32) (Let (sA M 9 (upd u (0 : Int32).toNatClampNeg x)) f) = f (sA M 9 (upd u 0 x)) := by
  show gI 1846 (nI 0) (Let (sA M 9 (upd u (nI 0).toNatClampNeg x)) f) = f (sA M 9 (upd u 0 x))
  rw [egN (by decide) (by decide), eLet, nI_clamp (by decide)]
theorem gz1 {β : Type} {m : Nat → Int32} {f : Int32 → Option β} : gI 1846 (1 : Int32) (Let (m (1 : Int32).toNatClampNeg) f) = f (m 1) := by
  show gI 1846 (nI 1) (Let (m (nI 1).toNatClampNeg) f) = f (m 1)
  rw [egN (by decide) (by decide), eLet, nI_clamp (by decide)]
theorem hz1 {β : Type} {M : OS} {u : Nat → Int32} {x : Int32} {f : OS → Option β} : gI 1846 (1 : Int32) (Let (sA M 9 (upd u (1 : Int32).toNatClampNeg x)) f) = f (sA M 9 (upd u 1 x)) := by
  show gI 1846 (nI 1) (Let (sA M 9 (upd u (nI 1).toNatClampNeg x)) f) = f (sA M 9 (upd u 1 x))
  rw [egN (by decide) (by decide), eLet, nI_clamp (by decide)]
theorem gz2 {β : Type} {m : Nat → Int32} {f : Int32 → Option β} : gI 1846 (2 : Int32) (Let (m (2 : Int32).toNatClampNeg) f) = f (m 2) := by
  show gI 1846 (nI 2) (Let (m (nI 2).toNatClampNeg) f) = f (m 2)
  rw [egN (by decide) (by decide), eLet, nI_clamp (by decide)]
theorem hz2 {β : Type} {M : OS} {u : Nat → Int32} {x : Int32} {f : OS → Option β} : gI 1846 (2 : Int32) (Let (sA M 9 (upd u (2 : Int32).toNatClampNeg x)) f) = f (sA M 9 (upd u 2 x)) := by
  show gI 1846 (nI 2) (Let (sA M 9 (upd u (nI 2).toNatClampNeg x)) f) = f (sA M 9 (upd u 2 x))
  rw [egN (by decide) (by decide), eLet, nI_clamp (by decide)]
theorem gz3 {β : Type} {m : Nat → Int32} {f : Int32 → Option β} : gI 1846 (3 : Int32) (Let (m (3 : Int32).toNatClampNeg) f) = f (m 3) := by
  show gI 1846 (nI 3) (Let (m (nI 3).toNatClampNeg) f) = f (m 3)
  rw [egN (by decide) (by decide), eLet, nI_clamp (by decide)]
theorem hz3 {β : Type} {M : OS} {u : Nat → Int32} {x : Int32} {f : OS → Option β} : gI 1846 (3 : Int32) (Let (sA M 9 (upd u (3 : Int32).toNatClampNeg x)) f) = f (sA M 9 (upd u 3 x)) := by
  show gI 1846 (nI 3) (Let (sA M 9 (upd u (nI 3).toNatClampNeg x)) f) = f (sA M 9 (upd u 3 x))
  rw [egN (by decide) (by decide), eLet, nI_clamp (by decide)]
theorem gz4 {β : Type} {m : Nat → Int32} {f : Int32 → Option β} : gI 1846 (4 : Int32) (Let (m (4 : Int32).toNatClampNeg) f) = f (m 4) := by
  show gI 1846 (nI 4) (Let (m (nI 4).toNatClampNeg) f) = f (m 4)
  rw [egN (by decide) (by decide), eLet, nI_clamp (by decide)]
theorem hz4 {β : Type} {M : OS} {u : Nat → Int32} {x : Int32} {f : OS → Option β} : gI 1846 (4 : Int32) (Let (sA M 9 (upd u (4 : Int32).toNatClampNeg x)) f) = f (sA M 9 (upd u 4 x)) := by
  show gI 1846 (nI 4) (Let (sA M 9 (upd u (nI 4).toNatClampNeg x)) f) = f (sA M 9 (upd u 4 x))
  rw [egN (by decide) (by decide), eLet, nI_clamp (by decide)]
theorem gz5 {β : Type} {m : Nat → Int32} {f : Int32 → Option β} : gI 1846 (5 : Int32) (Let (m (5 : Int32).toNatClampNeg) f) = f (m 5) := by
  show gI 1846 (nI 5) (Let (m (nI 5).toNatClampNeg) f) = f (m 5)
  rw [egN (by decide) (by decide), eLet, nI_clamp (by decide)]
theorem hz5 {β : Type} {M : OS} {u : Nat → Int32} {x : Int32} {f : OS → Option β} : gI 1846 (5 : Int32) (Let (sA M 9 (upd u (5 : Int32).toNatClampNeg x)) f) = f (sA M 9 (upd u 5 x)) := by
  show gI 1846 (nI 5) (Let (sA M 9 (upd u (nI 5).toNatClampNeg x)) f) = f (sA M 9 (upd u 5 x))
  rw [egN (by decide) (by decide), eLet, nI_clamp (by decide)]
theorem gz6 {β : Type} {m : Nat → Int32} {f : Int32 → Option β} : gI 1846 (6 : Int32) (Let (m (6 : Int32).toNatClampNeg) f) = f (m 6) := by
  show gI 1846 (nI 6) (Let (m (nI 6).toNatClampNeg) f) = f (m 6)
  rw [egN (by decide) (by decide), eLet, nI_clamp (by decide)]
theorem hz6 {β : Type} {M : OS} {u : Nat → Int32} {x : Int32} {f : OS → Option β} : gI 1846 (6 : Int32) (Let (sA M 9 (upd u (6 : Int32).toNatClampNeg x)) f) = f (sA M 9 (upd u 6 x)) := by
  show gI 1846 (nI 6) (Let (sA M 9 (upd u (nI 6).toNatClampNeg x)) f) = f (sA M 9 (upd u 6 x))
  rw [egN (by decide) (by decide), eLet, nI_clamp (by decide)]
theorem gz7 {β : Type} {m : Nat → Int32} {f : Int32 → Option β} : gI 1846 (7 : Int32) (Let (m (7 : Int32).toNatClampNeg) f) = f (m 7) := by
  show gI 1846 (nI 7) (Let (m (nI 7).toNatClampNeg) f) = f (m 7)
  rw [egN (by decide) (by decide), eLet, nI_clamp (by decide)]
theorem hz7 {β : Type} {M : OS} {u : Nat → Int32} {x : Int32} {f : OS → Option β} : gI 1846 (7 : Int32) (Let (sA M 9 (upd u (7 : Int32).toNatClampNeg x)) f) = f (sA M 9 (upd u 7 x)) := by
  show gI 1846 (nI 7) (Let (sA M 9 (upd u (nI 7).toNatClampNeg x)) f) = f (sA M 9 (upd u 7 x))
  rw [egN (by decide) (by decide), eLet, nI_clamp (by decide)]
theorem gz8 {β : Type} {m : Nat → Int32} {f : Int32 → Option β} : gI 1846 (8 : Int32) (Let (m (8 : Int32).toNatClampNeg) f) = f (m 8) := by
  show gI 1846 (nI 8) (Let (m (nI 8).toNatClampNeg) f) = f (m 8)
  rw [egN (by decide) (by decide), eLet, nI_clamp (by decide)]
theorem hz8 {β : Type} {M : OS} {u : Nat → Int32} {x : Int32} {f : OS → Option β} : gI 1846 (8 : Int32) (Let (sA M 9 (upd u (8 : Int32).toNatClampNeg x)) f) = f (sA M 9 (upd u 8 x)) := by
  show gI 1846 (nI 8) (Let (sA M 9 (upd u (nI 8).toNatClampNeg x)) f) = f (sA M 9 (upd u 8 x))
  rw [egN (by decide) (by decide), eLet, nI_clamp (by decide)]
theorem gz9 {β : Type} {m : Nat → Int32} {f : Int32 → Option β} : gI 1846 (9 : Int32) (Let (m (9 : Int32).toNatClampNeg) f) = f (m 9) := by
  show gI 1846 (nI 9) (Let (m (nI 9).toNatClampNeg) f) = f (m 9)
  rw [egN (by decide) (by decide), eLet, nI_clamp (by decide)]
theorem hz9 {β : Type} {M : OS} {u : Nat → Int32} {x : Int32} {f : OS → Option β} : gI 1846 (9 : Int32) (Let (sA M 9 (upd u (9 : Int32).toNatClampNeg x)) f) = f (sA M 9 (upd u 9 x)) := by
  show gI 1846 (nI 9) (Let (sA M 9 (upd u (nI 9).toNatClampNeg x)) f) = f (sA M 9 (upd u 9 x))
  rw [egN (by decide) (by decide), eLet, nI_clamp (by decide)]
theorem ow_ix (k : Nat) : (538 : Int32) + nI k = nI (538 + k) := nI_add 538 k
/-! a literal place of the row, for simp -/
theorem gq0 {β : Type} {o : Option β} : gI 1846 (0 : Int32) o = o := egN (k := 0) (by decide) (by decide)
theorem cl0 : Int32.toNatClampNeg (0 : Int32) = 0 := rfl
theorem gq1 {β : Type} {o : Option β} : gI 1846 (1 : Int32) o = o := egN (k := 1) (by decide) (by decide)
theorem cl1 : Int32.toNatClampNeg (1 : Int32) = 1 := rfl
theorem gq2 {β : Type} {o : Option β} : gI 1846 (2 : Int32) o = o := egN (k := 2) (by decide) (by decide)
theorem cl2 : Int32.toNatClampNeg (2 : Int32) = 2 := rfl
theorem gq3 {β : Type} {o : Option β} : gI 1846 (3 : Int32) o = o := egN (k := 3) (by decide) (by decide)
theorem cl3 : Int32.toNatClampNeg (3 : Int32) = 3 := rfl
theorem gq4 {β : Type} {o : Option β} : gI 1846 (4 : Int32) o = o := egN (k := 4) (by decide) (by decide)
theorem cl4 : Int32.toNatClampNeg (4 : Int32) = 4 := rfl
theorem gq5 {β : Type} {o : Option β} : gI 1846 (5 : Int32) o = o := egN (k := 5) (by decide) (by decide)
theorem cl5 : Int32.toNatClampNeg (5 : Int32) = 5 := rfl
theorem gq6 {β : Type} {o : Option β} : gI 1846 (6 : Int32) o = o := egN (k := 6) (by decide) (by decide)
theorem cl6 : Int32.toNatClampNeg (6 : Int32) = 6 := rfl
theorem gq7 {β : Type} {o : Option β} : gI 1846 (7 : Int32) o = o := egN (k := 7) (by decide) (by decide)
theorem cl7 : Int32.toNatClampNeg (7 : Int32) = 7 := rfl
theorem gq8 {β : Type} {o : Option β} : gI 1846 (8 : Int32) o = o := egN (k := 8) (by decide) (by decide)
theorem cl8 : Int32.toNatClampNeg (8 : Int32) = 8 := rfl
theorem gq9 {β : Type} {o : Option β} : gI 1846 (9 : Int32) o = o := egN (k := 9) (by decide) (by decide)
theorem cl9 : Int32.toNatClampNeg (9 : Int32) = 9 := rfl
