/-! names as numbers; a name looked up; a process printed -/
theorem sp_lt {x : Nat → Nat} : ∀ {k : Nat}, (∀ i, i < k → 97 ≤ x i ∧ x i ≤ 122) → sp x k < 32 ^ k
  | 0, _ => by
    show 0 < 32 ^ 0
    decide
  | k + 1, h => by
    have h1 := sp_lt (k := k) fun i hi => h i (by omega)
    have h2 := h k (by omega)
    show 32 * sp x k + (x k - 96) < 32 ^ (k + 1)
    rw [Nat.pow_succ]
    omega
theorem sp_pos {x : Nat → Nat} {k : Nat} (h : ∀ i, i < k → 97 ≤ x i ∧ x i ≤ 122) (hk : 1 ≤ k) : 1 ≤ sp x k := by
  obtain ⟨j, rfl⟩ : ∃ j, k = j + 1 := ⟨k - 1, by omega⟩
  have h2 := h j (by omega)
  show 1 ≤ 32 * sp x j + (x j - 96)
  omega
theorem sp_inj {x y : Nat → Nat} : ∀ {k k' : Nat}, (∀ i, i < k → 97 ≤ x i ∧ x i ≤ 122) → (∀ i, i < k' → 97 ≤ y i ∧ y i ≤ 122) → sp x k = sp y k' → k = k' ∧ ∀ i, i < k → x i = y i
  | 0, 0, _, _, _ => ⟨rfl, fun i hi => absurd hi (by omega)⟩
  | 0, k' + 1, _, h2, h => by
    have := sp_pos h2 (by omega)
    rw [← h] at this
    exact absurd (show 1 ≤ 0 from this) (by decide)
  | k + 1, 0, h1, _, h => by
    have := sp_pos h1 (by omega)
    rw [h] at this
    exact absurd (show 1 ≤ 0 from this) (by decide)
  | k + 1, k' + 1, h1, h2, h => by
    have a1 := h1 k (by omega)
    have a2 := h2 k' (by omega)
    have h' : 32 * sp x k + (x k - 96) = 32 * sp y k' + (y k' - 96) := h
    obtain ⟨e, q⟩ := sp_inj (k := k) (k' := k') (fun i hi => h1 i (by omega)) (fun i hi => h2 i (by omega)) (by omega)
    refine ⟨by omega, fun i hi => ?_⟩
    by_cases ei : i = k
    · subst ei
      rw [← e] at a2 h'
      omega
    · exact q i (by omega)
theorem sp_cong {x y : Nat → Nat} : ∀ {k : Nat}, (∀ i, i < k → x i = y i) → sp x k = sp y k
  | 0, _ => rfl
  | k + 1, h => by
    show 32 * sp x k + (x k - 96) = 32 * sp y k + (y k - 96)
    rw [sp_cong fun i hi => h i (by omega), h k (by omega)]
/-- the text lies in the class's input -/
def Ti (B : Nat → Nat) (len : Nat) (inp : OS) : Prop := len ≤ 600 ∧ inp.1 1 = nI len ∧ ∀ i, i < len → B i < 256 ∧ inp.2.1 0 i = by8 (B i)
def eqn (x B : Nat → Nat) (s : Nat) : Nat → Bool
  | 0 => true
  | i + 1 => eqn x B s i && decide (x i = B (s + i))
theorem eqn_iff {x B : Nat → Nat} {s : Nat} : ∀ {k : Nat}, eqn x B s k = true ↔ ∀ i, i < k → x i = B (s + i)
  | 0 => ⟨fun _ i hi => absurd hi (by omega), fun _ => rfl⟩
  | k + 1 => by
    show (eqn x B s k && decide (x k = B (s + k))) = true ↔ _
    rw [Bool.and_eq_true, eqn_iff, decide_eq_true_eq]
    constructor
    · intro h i hi
      by_cases e : i = k
      · rw [e]
        exact h.2
      · exact h.1 i (by omega)
    · intro h
      exact ⟨fun i hi => h i (by omega), h k (by omega)⟩
/-- the first of d numbers from i on for which b holds -/
def fnx (b : Nat → Bool) : Nat → Nat → Option Nat
  | 0, _ => none
  | d + 1, i => if b i then some i else fnx b d (i + 1)
theorem fnx_cong {a b : Nat → Bool} : ∀ {d i : Nat}, (∀ j, i ≤ j → j < i + d → a j = b j) → fnx a d i = fnx b d i
  | 0, _, _ => rfl
  | d + 1, i, h => by
    show (if a i then some i else fnx a d (i + 1)) = if b i then some i else fnx b d (i + 1)
    rw [h i (by omega) (by omega), fnx_cong fun j h1 h2 => h j (by omega) (by omega)]
theorem fnx_none {b : Nat → Bool} : ∀ {d i : Nat}, (∀ j, i ≤ j → j < i + d → b j = false) → fnx b d i = none
  | 0, _, _ => rfl
  | d + 1, i, h => by
    show (if b i then some i else fnx b d (i + 1)) = none
    rw [h i (by omega) (by omega), if_neg (by decide), fnx_none fun j h1 h2 => h j (by omega) (by omega)]
theorem fnx_some {b : Nat → Bool} : ∀ {d i k : Nat}, fnx b d i = some k → i ≤ k ∧ k < i + d ∧ b k = true
  | 0, _, _, h => by cases h
  | d + 1, i, k, h => by
    have h' : (if b i then some i else fnx b d (i + 1)) = some k := h
    cases hb : b i with
    | true =>
      rw [hb, if_pos rfl] at h'
      have := Option.some.inj h'
      subst this
      exact ⟨Nat.le_refl _, by omega, hb⟩
    | false =>
      rw [hb, if_neg (by decide)] at h'
      have := fnx_some h'
      exact ⟨by omega, by omega, this.2.2⟩
section PRINT
variable {P NP D D2 K T LC CC FC E Bs F Pt Ap n : Nat} {c x inp ou ru no rd M : OS} {pa : PS} {so : Option OS} {sv : Value} {p3 : Nat → Int64} {m : Nat → Int32}
theorem InR.text (h : InR inp M) : ∃ B k, Ti B k inp ∧ M.1 23 = nI k ∧ ∀ i, i < k → M.2.1 22 i = by8 (B i) := by
  obtain ⟨k, h1, h2, h3, h4⟩ := h
  have hB : ∀ i, i < k → ((inp.2.1 0 i) &&& (255 : Int32)).toNatClampNeg < 256 ∧ inp.2.1 0 i = by8 ((inp.2.1 0 i) &&& (255 : Int32)).toNatClampNeg ∧ M.2.1 22 i = by8 ((inp.2.1 0 i) &&& (255 : Int32)).toNatClampNeg := fun i hi => by
    obtain ⟨b, b1, b2, b3⟩ := h4 i hi
    rw [b2, (by8_ok b b1).1, nI_clamp (by omega)]
    exact ⟨b1, rfl, b3⟩
  exact ⟨fun i => ((inp.2.1 0 i) &&& (255 : Int32)).toNatClampNeg, k, ⟨h1, h2, fun i hi => ⟨(hB i hi).1, (hB i hi).2.1⟩⟩, h3, fun i hi => (hB i hi).2.2⟩
theorem ti_at {B : Nat → Nat} {len : Nat} (h : Ti B len inp) {i : Nat} (hi : i < 2 ^ 31) : f_X1_at n 600 inp (nI i) = some (if i < len then nI (B i) else -1) := by
  obtain ⟨h1, h2, h4⟩ := h
  unfold f_X1_at
  rw [if_neg (nI_pos hi), h2]
  by_cases q : i < len
  · rw [if_neg (nI_ge q (by omega)), if_neg (show ¬ Int32.ofNat 600 ≤ nI i from nI_ge (a := i) (b := 600) (by omega) (by decide)), egN (by omega) (by decide), eLet, nI_clamp hi, (h4 i q).2, (by8_ok _ (h4 i q).1).1, if_pos q]
  · rw [if_pos (nI_le (by omega) hi), if_neg q]
/-- a name of the class's table -/
def Nr (ru : OS) (ln : Nat → Nat) (x : Nat → Nat → Nat) (NP : Nat) : Prop := ∀ p, p < NP → 1 ≤ ln p ∧ ln p ≤ 6 ∧ (∀ i, i < ln p → 97 ≤ x p i ∧ x p i ≤ 122 ∧ ru.2.1 7 (7 * p + i) = nI (x p i)) ∧ ru.2.1 7 (7 * p + 6) = nI (ln p)
def nmb (ln : Nat → Nat) (x : Nat → Nat → Nat) (B : Nat → Nat) (s e p : Nat) : Bool := decide (ln p = e - s) && eqn (x p) B s (e - s)
theorem c_isNamed {ln : Nat → Nat} {y : Nat → Nat → Nat} {B : Nat → Nat} {len s e p : Nat} (hN : Nr ru ln y NP) (hNP : NP ≤ 8) (hT : Ti B len inp) (hse : s ≤ e) (hel : e ≤ len) (hp : p < NP) (hn : 700 < n) : f_X5_isNamed n ru 600 inp (nI p) (nI s) (nI e) = some (bI (nmb ln y B s e p)) := by
  obtain ⟨a1, a2, a3, a4⟩ := hN p hp
  have h600 := hT.1
  unfold f_X5_isNamed nmb
  rw [show f_X6_get n (7 : Int32) 56 (ru.2.1 7) (nI p) (6 : Int32) = some (ru.2.1 7 (7 * p + 6)) from tget (n := n) (cc := 7) (z := 56) (v := p) (j := 6) (7 * p + 6) (by omega) (by omega) (by decide), ebnd, a4, pk_sub hse]
  by_cases hl : ln p = e - s
  · rw [if_pos (by rw [hl]), decide_eq_true hl, Bool.true_and]
    have hh := loop_inv (l := fun N (_ : Unit) i => l_X5_isNamed_22 n 600 ru inp (nI p) (nI s) (nI e) N i) (fun i _ => s ≤ i ∧ eqn (y p) B s (i - s) = true) (Q := fun r => r = bI (eqn (y p) B s (e - s))) (K := e) (fun N u hs => ?_) (fun N u i hi hs => ?_) s n () hse (by omega) ⟨Nat.le_refl _, by rw [Nat.sub_self]; rfl⟩
    · obtain ⟨r, h1, h2⟩ := hh
      rw [← h2]
      exact h1
    · refine ⟨1, ?_, by rw [hs.2]; rfl⟩
      show s_X5_isNamed_22 n 600 ru inp (nI p) (nI s) (nI e) _ (nI e) = _
      unfold s_X5_isNamed_22
      rw [if_pos (Int32.le_refl _)]
    · have hx := a3 (i - s) (by omega)
      have hB := (hT.2.2 i (by omega)).1
      have hg : f_X6_get n (7 : Int32) 56 (ru.2.1 7) (nI p) (nI (i - s)) = some (nI (y p (i - s))) := by
        rw [show f_X6_get n (7 : Int32) 56 (ru.2.1 7) (nI p) (nI (i - s)) = some (ru.2.1 7 (7 * p + (i - s))) from tget (n := n) (cc := 7) (z := 56) (v := p) (j := i - s) (7 * p + (i - s)) (by omega) (by omega) (by decide), hx.2.2]
      have step : s_X5_isNamed_22 n 600 ru inp (nI p) (nI s) (nI e) (l_X5_isNamed_22 n 600 ru inp (nI p) (nI s) (nI e) N) (nI i) = if y p (i - s) = B i then l_X5_isNamed_22 n 600 ru inp (nI p) (nI s) (nI e) N (nI (i + 1)) else some 0 := by
        unfold s_X5_isNamed_22
        rw [if_neg (nI_ge hi (by omega)), pk_sub hs.1, hg, ebnd, ti_at hT (by omega), ebnd, if_pos (show i < len by omega), eLet, nI_1]
        by_cases e1 : y p (i - s) = B i
        · rw [if_pos e1, if_pos (by rw [e1])]
        · rw [if_neg e1, if_neg (fun z => e1 (nI_inj (by omega) (by omega) z))]
      have hsucc : eqn (y p) B s (i + 1 - s) = decide (y p (i - s) = B i) := by
        rw [show i + 1 - s = (i - s) + 1 by omega]
        show (eqn (y p) B s (i - s) && decide (y p (i - s) = B (s + (i - s)))) = _
        rw [hs.2, show s + (i - s) = i by omega, Bool.true_and]
      by_cases e1 : y p (i - s) = B i
      · rw [if_pos e1] at step
        refine Or.inl ⟨(), ⟨by omega, ?_⟩, step⟩
        rw [hsucc, decide_eq_true e1]
      · rw [if_neg e1] at step
        refine Or.inr ⟨0, step, ?_⟩
        have : eqn (y p) B s (e - s) = false := by
          rw [← Bool.not_eq_true, eqn_iff]
          intro z
          have := z (i - s) (by omega)
          rw [show s + (i - s) = i by omega] at this
          exact e1 this
        rw [this]
        rfl
  · rw [if_neg (fun z => hl (nI_inj (by omega) (by omega) z)), decide_eq_false hl]
    rfl
theorem c_processNamed {ln : Nat → Nat} {y : Nat → Nat → Nat} {B : Nat → Nat} {len s e : Nat} (hN : Nr ru ln y NP) (hru : ru.1 1 = nI NP) (hNP : NP ≤ 8) (hT : Ti B len inp) (hse : s ≤ e) (hel : e ≤ len) (hn : 700 < n) : f_X5_processNamed n ru 600 inp (nI s) (nI e) = some (toI (fnx (nmb ln y B s e) NP 0)) := by
  have go : ∀ d i N, i + d = NP → d < N → l_X5_processNamed_3 n 600 ru inp (nI s) (nI e) N (nI i) = some (toI (fnx (nmb ln y B s e) d i)) := by
    intro d
    induction d with
    | zero =>
      intro i N h1 h2
      obtain ⟨N', rfl⟩ : ∃ N', N = N' + 1 := ⟨N - 1, by omega⟩
      show s_X5_processNamed_3 n 600 ru inp (nI s) (nI e) _ (nI i) = _
      unfold s_X5_processNamed_3
      rw [hru, if_pos (nI_le (by omega) (by omega))]
      rfl
    | succ d ih =>
      intro i N h1 h2
      obtain ⟨N', rfl⟩ : ∃ N', N = N' + 1 := ⟨N - 1, by omega⟩
      show s_X5_processNamed_3 n 600 ru inp (nI s) (nI e) _ (nI i) = some (toI (if nmb ln y B s e i then some i else fnx (nmb ln y B s e) d (i + 1)))
      unfold s_X5_processNamed_3
      rw [hru, if_neg (nI_ge (show i < NP by omega) (by omega)), c_isNamed hN hNP hT hse hel (show i < NP by omega) hn, ebnd, ifz, eLet, nI_1, ih (i + 1) N' (by omega) (by omega)]
      cases nmb ln y B s e i <;> rfl
  exact go NP 0 n (by omega) (by omega)
theorem m_indexOf {v : Int64} (hNP : NP ≤ 8) (hn : 100 < n) : f_X9_indexOf n 8 (M.2.2.1 8) (nI NP) v = some (toI (fnx (fun p => decide (M.2.2.1 8 p = v)) NP 0)) := by
  have go : ∀ d i N, i + d = NP → d < N → l_X9_indexOf_3 n 8 (M.2.2.1 8) (nI NP) v N (nI i) = some (toI (fnx (fun p => decide (M.2.2.1 8 p = v)) d i)) := by
    intro d
    induction d with
    | zero =>
      intro i N h1 h2
      obtain ⟨N', rfl⟩ : ∃ N', N = N' + 1 := ⟨N - 1, by omega⟩
      show s_X9_indexOf_3 n 8 (M.2.2.1 8) (nI NP) v _ (nI i) = _
      unfold s_X9_indexOf_3
      rw [if_pos (nI_le (by omega) (by omega))]
      rfl
    | succ d ih =>
      intro i N h1 h2
      obtain ⟨N', rfl⟩ : ∃ N', N = N' + 1 := ⟨N - 1, by omega⟩
      show s_X9_indexOf_3 n 8 (M.2.2.1 8) (nI NP) v _ (nI i) = some (toI (if decide (M.2.2.1 8 i = v) then some i else fnx (fun p => decide (M.2.2.1 8 p = v)) d (i + 1)))
      unfold s_X9_indexOf_3
      rw [if_neg (nI_ge (show i < NP by omega) (by omega)), egN (by omega) (by decide), eLet, nI_clamp (by omega)]
      by_cases q : M.2.2.1 8 i = v
      · rw [if_pos ((cmp0 _ _).mpr q), if_pos (decide_eq_true q)]
        rfl
      · rw [if_neg (fun z => q ((cmp0 _ _).mp z)), if_neg (by rw [decide_eq_false q]; decide), eLet, nI_1, ih (i + 1) N' (by omega) (by omega)]
  exact go NP 0 n (by omega) (by omega)
/-- a name's number beside a text's -/
theorem nmb_val {ln : Nat → Nat} {y : Nat → Nat → Nat} {B : Nat → Nat} {s e p : Nat} (hN : Nr ru ln y NP) (hp : p < NP) (hv : M.2.2.1 8 p = lN (sp (y p) (ln p))) (hB : ∀ i, s ≤ i → i < e → 97 ≤ B i ∧ B i ≤ 122) (hse : s ≤ e) (h6 : e - s ≤ 6) : nmb ln y B s e p = decide (M.2.2.1 8 p = lN (sp (fun i => B (s + i)) (e - s))) := by
  obtain ⟨a1, a2, a3, a4⟩ := hN p hp
  have hx : ∀ i, i < ln p → 97 ≤ y p i ∧ y p i ≤ 122 := fun i hi => ⟨(a3 i hi).1, (a3 i hi).2.1⟩
  have hb : ∀ i, i < e - s → 97 ≤ B (s + i) ∧ B (s + i) ≤ 122 := fun i hi => hB (s + i) (by omega) (by omega)
  have l1 := sp_lt hx
  have l2 := sp_lt hb
  have l3 : 32 ^ ln p ≤ 32 ^ 6 := Nat.pow_le_pow_right (by decide) a2
  have l4 : 32 ^ (e - s) ≤ 32 ^ 6 := Nat.pow_le_pow_right (by decide) h6
  unfold nmb
  rw [hv, Bool.eq_iff_iff, Bool.and_eq_true, decide_eq_true_eq, decide_eq_true_eq, eqn_iff, pk_lEQ (by omega) (by omega)]
  constructor
  · rintro ⟨q1, q2⟩
    rw [q1]
    exact sp_cong q2
  · intro q
    obtain ⟨q1, q2⟩ := sp_inj hx hb q
    exact ⟨q1, fun i hi => q2 i (by omega)⟩
def ltr (b : Nat) : Bool := decide (97 ≤ b) && decide (b ≤ 122)
theorem in_ltr {b : Nat} (hb : b < 256) : f_X9_isIn n ((by8 b).toInt64) (97 : Int64) (122 : Int64) = some (bI (ltr b)) ∧ (ltr b = true → by8 b = nI b) := by
  obtain ⟨_, h2, h3⟩ := by8_ok b hb
  refine ⟨?_, fun h => ?_⟩
  · rw [show (97 : Int64) = (97 : Int32).toInt64 from by decide, show (122 : Int64) = (122 : Int32).toInt64 from by decide, in32]
    apply congrArg (fun z => some (bI z))
    unfold ltr
    rw [Bool.eq_iff_iff, Bool.and_eq_true, Bool.and_eq_true, decide_eq_true_eq, decide_eq_true_eq, decide_eq_true_eq, decide_eq_true_eq, fa_le, fa_le, show (97 : Int32).toInt = 97 from by decide, show (122 : Int32).toInt = 122 from by decide]
    constructor
    · rintro ⟨q1, q2⟩
      omega
    · rintro ⟨q1, q2⟩
      rw [h2 (by omega), nI_toInt (by omega)]
      omega
  · unfold ltr at h
    have := Bool.and_eq_true_iff.mp h
    have q := of_decide_eq_true this.2
    exact h2 (by omega)
theorem m_find_go {B : Nat → Nat} {k : Nat} (hk : k ≤ 6) (hM : ∀ i, i < k → B i < 256 ∧ M.2.1 22 i = by8 (B i)) (h2 : M.1 2 = nI NP) (hNP : NP ≤ 8) (hn : 100 < n) : ∀ d i N, i + d = k → d < N → (∀ j, j < i → ltr (B j) = true) → l_X9_find_34 n (nI k) N M (lN (sp B i)) (nI i) = some (M, if (∀ j, j < k → ltr (B j) = true) then toI (fnx (fun p => decide (M.2.2.1 8 p = lN (sp B k))) NP 0) else -1) := by
  intro d
  induction d with
  | zero =>
    intro i N h1 h3 h4
    obtain ⟨N', rfl⟩ : ∃ N', N = N' + 1 := ⟨N - 1, by omega⟩
    have hi : i = k := by omega
    subst hi
    show s_X9_find_34 n (nI i) _ M _ (nI i) = _
    unfold s_X9_find_34
    rw [if_pos (Int32.le_refl _), h2, m_indexOf hNP hn, ebnd, if_pos h4]
  | succ d ih =>
    intro i N h1 h3 h4
    obtain ⟨N', rfl⟩ : ∃ N', N = N' + 1 := ⟨N - 1, by omega⟩
    obtain ⟨b1, b2⟩ := hM i (by omega)
    obtain ⟨c1, c2⟩ := in_ltr (n := n) b1
    have hsp := sp_lt (x := B) (k := i) fun j hj => by
      have := Bool.and_eq_true_iff.mp (h4 j hj)
      exact ⟨of_decide_eq_true this.1, of_decide_eq_true this.2⟩
    have l3 : 32 ^ i ≤ 32 ^ 6 := Nat.pow_le_pow_right (by decide) (by omega)
    show s_X9_find_34 n (nI k) _ M (lN (sp B i)) (nI i) = _
    unfold s_X9_find_34
    rw [if_neg (nI_ge (show i < k by omega) (by omega)), egN (by omega) (by decide), eLet, nI_clamp (by omega), b2, c1, ebnd, ifz, egN (by omega) (by decide), eLet]
    cases hl : ltr (B i) with
    | false =>
      rw [if_neg (by decide), if_neg (fun z => by rw [z i (by omega)] at hl; cases hl)]
    | true =>
      have hlt := Bool.and_eq_true_iff.mp hl
      have q1 := of_decide_eq_true hlt.1
      have q2 := of_decide_eq_true hlt.2
      have hv : (32 : Int64) * lN (sp B i) + (by8 (B i)).toInt64 - (96 : Int64) = lN (sp B (i + 1)) := by
        rw [c2 hl, nI_l (by omega), show (32 : Int64) = lN 32 from rfl, lN_mul, lN_add, show (96 : Int64) = lN 96 from rfl, lN_sub (by omega)]
        congr 1
        show 32 * sp B i + B i - 96 = 32 * sp B i + (B i - 96)
        omega
      rw [if_pos rfl, hv, eLet, eLet, nI_1]
      exact ih (i + 1) N' (by omega) (by omega) fun j hj => by
        by_cases e : j = i
        · rw [e]
          exact hl
        · exact h4 j (by omega)
theorem lk_find (h : RXx P NP E Bs F Pt Ap T LC CC FC D x inp ou ru no rd pa M so) (hn : 700 < n) : ∃ inp' M' r, f_X8_find n sv x 600 inp ru = some (inp', r) ∧ f_X9_find n M = some (M', r) ∧ RX D x inp' ou ru no rd pa M' so := by
  have hU := h.1
  have hNP : NP ≤ 8 := hU.2.2.2.2.1
  have hO := h.2.2.2.2.1
  obtain ⟨ln, y, hNm⟩ := h.2.1
  have hNr : Nr ru ln y NP := fun p hp => by
    obtain ⟨a1, a2, a3, a4, _⟩ := hNm p hp
    exact ⟨a1, a2, a3, a4⟩
  obtain ⟨B, k, hT, h23, h22⟩ := h.2.2.2.1.text
  have hk := hT.1
  have hc : f_X8_find n sv x 600 inp ru = some (sI inp 1 0, toI (fnx (nmb ln y B 0 k) NP 0)) := by
    unfold f_X8_find
    rw [hT.2.1, show (0 : Int32) = nI 0 from rfl, c_processNamed hNr hU.1.2.1 hNP hT (Nat.zero_le _) (Nat.le_refl _) hn, ebnd, eLet]
  have hrx : RX D x (sI inp 1 0) ou ru no rd pa (sI (sI M 0 0) 23 0) so := h.io (fun i b1 b2 b3 => by rw [sI_o b2, sI_o b1]) (fun _ _ _ => rfl) rfl ⟨0, by omega, rfl, rfl, fun i hi => absurd hi (by omega)⟩ (hO.fr rfl rfl)
  have nol : (∀ p, p < NP → nmb ln y B 0 k p = false) → fnx (nmb ln y B 0 k) NP 0 = none := fun q => fnx_none fun j _ hj => q j (by omega)
  have hm0 : f_X9_find n M = if v1 (nI k) 6 then l_X9_find_34 n (nI k) n (sI (sI M 0 0) 23 0) 0 0 else some (sI (sI M 0 0) 23 0, (-1 : Int32)) := by
    unfold f_X9_find
    rw [eLet, eLet, eLet, show (sI M 0 0).1 23 = nI k from h23, show (6 : Int64) = (nI 6).toInt64 from by decide, in_1, ebnd, ifz]
  by_cases hk6 : 1 ≤ k ∧ k ≤ 6
  · have hv1 : v1 (nI k) 6 = true := by
      unfold v1
      rw [decide_eq_true (show (1 : Int32) ≤ nI k from nI_le (a := 1) hk6.1 (by omega)), decide_eq_true (nI_le hk6.2 (by decide))]
      rfl
    have hgo := m_find_go (n := n) (M := sI (sI M 0 0) 23 0) (B := B) (k := k) (NP := NP) hk6.2 (fun i hi => ⟨(hT.2.2 i hi).1, h22 i hi⟩) hU.2.1.2.1 hNP (by omega) k 0 n (by omega) (by omega) (fun j hj => absurd hj (by omega))
    have hgo' : l_X9_find_34 n (nI k) n (sI (sI M 0 0) 23 0) 0 0 = some (sI (sI M 0 0) 23 0, if (∀ j, j < k → ltr (B j) = true) then toI (fnx (fun p => decide (M.2.2.1 8 p = lN (sp B k))) NP 0) else -1) := hgo
    rw [hv1, if_pos rfl, hgo'] at hm0
    by_cases hall : ∀ j, j < k → ltr (B j) = true
    · have hB : ∀ i, 0 ≤ i → i < k → 97 ≤ B i ∧ B i ≤ 122 := fun i _ hi => by
        have := Bool.and_eq_true_iff.mp (hall i hi)
        exact ⟨of_decide_eq_true this.1, of_decide_eq_true this.2⟩
      rw [if_pos hall] at hm0
      have he : fnx (nmb ln y B 0 k) NP 0 = fnx (fun p => decide (M.2.2.1 8 p = lN (sp B k))) NP 0 := fnx_cong fun p _ hp => by
        rw [nmb_val (M := M) hNr (show p < NP by omega) (hNm p (by omega)).2.2.2.2 hB (Nat.zero_le _) hk6.2]
        rw [show (fun i => B (0 + i)) = B from funext fun i => by rw [Nat.zero_add]]
        rfl
      rw [he] at hc
      exact ⟨_, _, _, hc, hm0, hrx⟩
    · rw [if_neg hall] at hm0
      have hno : ∀ p, p < NP → nmb ln y B 0 k p = false := fun p hp => by
        obtain ⟨a1, a2, a3, _⟩ := hNr p hp
        rw [← Bool.not_eq_true]
        intro q
        unfold nmb at q
        obtain ⟨q1, q2⟩ := Bool.and_eq_true_iff.mp q
        have q3 := of_decide_eq_true q1
        have q4 := eqn_iff.mp q2
        refine hall fun j hj => ?_
        have q5 := q4 j (by omega)
        have q6 := a3 j (by omega)
        rw [Nat.zero_add] at q5
        unfold ltr
        rw [← q5, decide_eq_true q6.1, decide_eq_true q6.2.1]
        rfl
      rw [nol hno] at hc
      exact ⟨_, _, _, hc, hm0, hrx⟩
  · have hv1 : v1 (nI k) 6 = false := by
      unfold v1
      by_cases q : 1 ≤ k
      · rw [decide_eq_false (nI_ge (a := 6) (b := k) (by omega) (by omega)), Bool.and_false]
      · rw [show k = 0 by omega]
        rfl
    rw [hv1, if_neg (by decide)] at hm0
    have hno : ∀ p, p < NP → nmb ln y B 0 k p = false := fun p hp => by
      obtain ⟨a1, a2, _⟩ := hNr p hp
      unfold nmb
      rw [decide_eq_false (show ¬ ln p = k - 0 by omega)]
      rfl
    rw [nol hno] at hc
    exact ⟨_, _, _, hc, hm0, hrx⟩
end PRINT
