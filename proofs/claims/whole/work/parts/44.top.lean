/-! the whole state of the law's two objects, and what a looking call leaves -/
/-- a name as one number -/
def sp (x : Nat → Nat) : Nat → Nat
  | 0 => 0
  | k + 1 => 32 * sp x k + (x k - 96)
def Nm (NP : Nat) (ru M : OS) : Prop := ∃ (ln : Nat → Nat) (x : Nat → Nat → Nat), ∀ p, p < NP → 1 ≤ ln p ∧ ln p ≤ 6 ∧ (∀ i, i < ln p → 97 ≤ x p i ∧ x p i ≤ 122 ∧ ru.2.1 7 (7 * p + i) = nI (x p i)) ∧ ru.2.1 7 (7 * p + 6) = nI (ln p) ∧ M.2.2.1 8 p = lN (sp (x p) (ln p))
/-- a byte as it lies in an array -/
def by8 (b : Nat) : Int32 := (nI b).toInt8.toInt32
def InR (inp M : OS) : Prop := ∃ k, k ≤ 600 ∧ inp.1 1 = nI k ∧ M.1 23 = nI k ∧ ∀ i, i < k → ∃ b, b < 256 ∧ inp.2.1 0 i = by8 b ∧ M.2.1 22 i = by8 b
def OuR (ou M : OS) : Prop := ∃ k, k ≤ 1000 ∧ ou.1 1 = nI k ∧ M.1 40 = nI k ∧ ∀ i, i < k → ∃ b, b < 128 ∧ ou.2.1 0 i = nI b ∧ M.2.1 39 i = nI b
def Snap (P NP D : Nat) (c : OS) (m : Nat → Int32) : Prop := ∃ T LC CC FC, RR P NP D T LC CC FC c m
def PaR (P NP D : Nat) (pa : PS) (M : OS) : Prop := ∃ nx k, nx < 8 ∧ k ≤ 8 ∧ pa.1 1 = nI nx ∧ pa.1 2 = nI k ∧ M.1 15 = nI k ∧ (pa.2.1 = 8 ∨ (pa.2.1 < 8 ∧ nx ≤ pa.2.1 ∧ k ≤ nx)) ∧ ∀ i, i < k → Snap P NP D (pa.2.2 ((nx + 8 - k + i) % 8)) (fun j => M.2.1 14 (1846 * i + j))
def SvR (P NP D : Nat) (x : OS) (so : Option OS) (M : OS) : Prop := ∃ b : Bool, x.1 8 = bI b ∧ M.1 16 = bI b ∧ (b = true → ∃ c, so = some c ∧ Snap P NP D c (M.2.1 13))
def RX (D : Nat) (x inp ou ru no rd : OS) (pa : PS) (M : OS) (so : Option OS) : Prop := ∃ P NP E Bs F Pt Ap T LC CC FC, Ru P NP E Bs F Pt Ap ru M ∧ Nm NP ru M ∧ RR P NP D T LC CC FC no (M.2.1 9) ∧ InR inp M ∧ OuR ou M ∧ (rd.1 3 = M.1 31 ∧ rd.1 4 = M.1 32) ∧ PaR P NP D pa M ∧ SvR P NP D x so M ∧ M.1 17 = -1 ∧ M.1 19 = -1
/-- the model looked, or went on with its row and laid it back -/
def EqM (M M' : OS) : Prop := (∀ j, j ≠ 0 → j ≠ 18 → j ≠ 20 → M'.1 j = M.1 j) ∧ (∀ j, j ≠ 9 → j ≠ 11 → j ≠ 12 → j ≠ 21 → M'.2.1 j = M.2.1 j) ∧ (∀ i, i < 1846 → M'.2.1 9 i = M.2.1 9 i) ∧ M'.2.2 = M.2.2
theorem EqM.rf (M : OS) : EqM M M := ⟨fun _ _ _ _ => rfl, fun _ _ _ _ _ => rfl, fun _ _ => rfl, rfl⟩
theorem EqM.told (M : OS) (v : Int32) : EqM M (sI M 0 v) := ⟨fun _ h _ _ => sI_o h, fun _ _ _ _ _ => rfl, fun _ _ => rfl, rfl⟩
theorem EqM.tr {M M1 M2 : OS} (h : EqM M M1) (h2 : EqM M1 M2) : EqM M M2 := ⟨fun j a b d => (h2.1 j a b d).trans (h.1 j a b d), fun j a b d e => (h2.2.1 j a b d e).trans (h.2.1 j a b d e), fun i hi => (h2.2.2.1 i hi).trans (h.2.2.1 i hi), h2.2.2.2.trans h.2.2.2⟩
theorem Snap.row {P NP D : Nat} {c : OS} {m m' : Nat → Int32} (h : Snap P NP D c m) (hm : ∀ i, i < 1846 → m' i = m i) : Snap P NP D c m' := by
  obtain ⟨T, LC, CC, FC, h⟩ := h
  exact ⟨T, LC, CC, FC, h.row hm⟩
theorem ILn.mono {NP D D2 LC : Nat} {m : Nat → Int32} (h : ILn NP D LC m) (hD : D ≤ D2) : ILn NP D2 LC m := fun l hl => ⟨(h l hl).1, by
  obtain ⟨d, h1, h2⟩ := (h l hl).2
  exact ⟨d, by omega, h2⟩⟩
theorem R0.mono {P NP D D2 K T LC CC FC : Nat} {c : OS} {m : Nat → Int32} (h : R0 P NP D K T LC CC FC c m) (hD : D ≤ D2) : R0 P NP D2 K T LC CC FC c m := ⟨h.1, h.2.1, h.2.2.1, h.2.2.2.1, h.2.2.2.2.1, h.2.2.2.2.2.1.mono hD, h.2.2.2.2.2.2⟩
theorem RR.mono {P NP D D2 T LC CC FC : Nat} {c : OS} {m : Nat → Int32} (h : RR P NP D T LC CC FC c m) (hD : D ≤ D2) : RR P NP D2 T LC CC FC c m := ⟨h.1.mono hD, h.2⟩
theorem Snap.mono {P NP D D2 : Nat} {c : OS} {m : Nat → Int32} (h : Snap P NP D c m) (hD : D ≤ D2) : Snap P NP D2 c m := by
  obtain ⟨T, LC, CC, FC, h⟩ := h
  exact ⟨T, LC, CC, FC, h.mono hD⟩
theorem PaR.mono {P NP D D2 : Nat} {pa : PS} {M : OS} (h : PaR P NP D pa M) (hD : D ≤ D2) : PaR P NP D2 pa M := by
  obtain ⟨nx, k, h1, h2, h3, h4, h5, h6, h7⟩ := h
  exact ⟨nx, k, h1, h2, h3, h4, h5, h6, fun i hi => (h7 i hi).mono hD⟩
theorem SvR.mono {P NP D D2 : Nat} {x : OS} {so : Option OS} {M : OS} (h : SvR P NP D x so M) (hD : D ≤ D2) : SvR P NP D2 x so M := by
  obtain ⟨b, h1, h2, h3⟩ := h
  exact ⟨b, h1, h2, fun hb => by
    obtain ⟨c, h4, h5⟩ := h3 hb
    exact ⟨c, h4, h5.mono hD⟩⟩
theorem RX.mono {D D2 : Nat} {x inp ou ru no rd : OS} {pa : PS} {M : OS} {so : Option OS} (h : RX D x inp ou ru no rd pa M so) (hD : D ≤ D2) : RX D2 x inp ou ru no rd pa M so := by
  obtain ⟨P, NP, E, Bs, F, Pt, Ap, T, LC, CC, FC, h1, h2, h3, h4, h5, h6, h7, h8, h9⟩ := h
  exact ⟨P, NP, E, Bs, F, Pt, Ap, T, LC, CC, FC, h1, h2, h3.mono hD, h4, h5, h6, h7.mono hD, h8.mono hD, h9⟩
/-- what the relation asks of the model but for its row, its told, its watched fines -/
def Kp (M M' : OS) : Prop := (∀ j, 1 ≤ j → j ≤ 7 → M'.1 j = M.1 j) ∧ M'.1 15 = M.1 15 ∧ M'.1 16 = M.1 16 ∧ M'.1 17 = M.1 17 ∧ M'.1 19 = M.1 19 ∧ M'.1 23 = M.1 23 ∧ M'.1 31 = M.1 31 ∧ M'.1 32 = M.1 32 ∧ M'.1 40 = M.1 40 ∧ M'.2.1 13 = M.2.1 13 ∧ M'.2.1 14 = M.2.1 14 ∧ M'.2.1 22 = M.2.1 22 ∧ M'.2.1 39 = M.2.1 39 ∧ M'.2.2.1 8 = M.2.2.1 8
theorem EqM.kp {M M' : OS} (h : EqM M M') : Kp M M' := ⟨fun j h1 h2 => h.1 j (by omega) (by omega) (by omega), h.1 15 (by omega) (by omega) (by omega), h.1 16 (by omega) (by omega) (by omega), h.1 17 (by omega) (by omega) (by omega), h.1 19 (by omega) (by omega) (by omega), h.1 23 (by omega) (by omega) (by omega), h.1 31 (by omega) (by omega) (by omega), h.1 32 (by omega) (by omega) (by omega), h.1 40 (by omega) (by omega) (by omega), h.2.1 13 (by omega) (by omega) (by omega) (by omega), h.2.1 14 (by omega) (by omega) (by omega) (by omega), h.2.1 22 (by omega) (by omega) (by omega) (by omega), h.2.1 39 (by omega) (by omega) (by omega) (by omega), by rw [h.2.2.2]⟩
theorem RX.kp {D : Nat} {x inp ou ru no rd : OS} {pa : PS} {M : OS} {so : Option OS} (h : RX D x inp ou ru no rd pa M so) {no' M' : OS} (hk : Kp M M') (hr : ∀ P NP T LC CC FC, RR P NP D T LC CC FC no (M.2.1 9) → Snap P NP D no' (M'.2.1 9)) : RX D x inp ou ru no' rd pa M' so := by
  obtain ⟨P, NP, E, Bs, F, Pt, Ap, T, LC, CC, FC, h1, h2, h3, h4, h5, h6, h7, h8, h9, h10⟩ := h
  obtain ⟨k1, k2, k3, k4, k5, k6, k7, k8, k9, k10, k11, k12, k13, k14⟩ := hk
  obtain ⟨T', LC', CC', FC', hr'⟩ := hr P NP T LC CC FC h3
  refine ⟨P, NP, E, Bs, F, Pt, Ap, T', LC', CC', FC', h1.fr k1, ?_, hr', ?_, ?_, ?_, ?_, ?_, by rw [k4]; exact h9, by rw [k5]; exact h10⟩
  · obtain ⟨ln, y, hn⟩ := h2
    exact ⟨ln, y, fun p hp => by rw [k14]; exact hn p hp⟩
  · obtain ⟨k, a1, a2, a3, a4⟩ := h4
    exact ⟨k, a1, a2, by rw [k6]; exact a3, by rw [k12]; exact a4⟩
  · obtain ⟨k, a1, a2, a3, a4⟩ := h5
    exact ⟨k, a1, a2, by rw [k9]; exact a3, by rw [k13]; exact a4⟩
  · rw [k7, k8]
    exact h6
  · obtain ⟨nx, k, a1, a2, a3, a4, a5, a6, a7⟩ := h7
    exact ⟨nx, k, a1, a2, a3, a4, by rw [k2]; exact a5, a6, by rw [k11]; exact a7⟩
  · obtain ⟨b, a1, a2, a3⟩ := h8
    exact ⟨b, a1, by rw [k3]; exact a2, by rw [k10]; exact a3⟩
theorem RX.eqM {D : Nat} {x inp ou ru no rd : OS} {pa : PS} {M : OS} {so : Option OS} (h : RX D x inp ou ru no rd pa M so) {no' M' : OS} (hk : EqM M M') (hc : Cpy no no') : RX D x inp ou ru no' rd pa M' so :=
  h.kp hk.kp fun _ _ T LC CC FC hr => ⟨T, LC, CC, FC, hr.cpy hc hk.2.2.1⟩
/-! told -/
section TOLD
variable {P NP D K T LC CC FC E Bs F Pt Ap n : Nat} {c ru M : OS} {m : Nat → Int32}
theorem m_is (b : Bool) : f_X9_is n M (bI b) = some (sI M 0 (bI (!b)), bI b) := by
  cases b <;> rfl
theorem m_may (b : Bool) (v : Int32) : f_X9_may n M (bI b) v = some (sI M 0 (if b then 0 else v), bI b) := by
  cases b <;> rfl
theorem in64 (a l h : Int64) : f_X9_isIn n a l h = some (bI (decide (l ≤ a) && decide (a ≤ h))) := by
  unfold f_X9_isIn
  have k1 : (lg_cmp a l < 0) ↔ ¬ l ≤ a := by
    unfold lg_cmp
    rw [fa_le64]
    by_cases q : a > l
    · rw [if_pos q]
      have q2 : l < a := q
      rw [fa_lt64] at q2
      exact ⟨fun z => absurd z (by decide), fun z => by omega⟩
    · rw [if_neg q]
      by_cases q3 : a = l
      · rw [if_pos q3, q3]
        exact ⟨fun z => absurd z (by decide), fun z => by omega⟩
      · rw [if_neg q3]
        have q2 : ¬ l < a := q
        rw [fa_lt64] at q2
        have q4 : a.toInt ≠ l.toInt := fun z => q3 ((fa_eq64 a l).mpr z)
        exact ⟨fun _ => by omega, fun _ => by decide⟩
  have k2 : (0 < lg_cmp a h) ↔ ¬ a ≤ h := by
    unfold lg_cmp
    rw [fa_le64]
    by_cases q : a > h
    · rw [if_pos q]
      have q2 : h < a := q
      rw [fa_lt64] at q2
      exact ⟨fun _ => by omega, fun _ => by decide⟩
    · rw [if_neg q]
      have q2 : ¬ h < a := q
      rw [fa_lt64] at q2
      by_cases q3 : a = h
      · rw [if_pos q3, q3]
        exact ⟨fun z => absurd z (by decide), fun z => by omega⟩
      · rw [if_neg q3]
        exact ⟨fun z => absurd z (by decide), fun z => by omega⟩
  by_cases q1 : l ≤ a
  · rw [if_neg (fun z => k1.mp z q1), decide_eq_true q1]
    by_cases q2 : a ≤ h
    · rw [if_neg (fun z => k2.mp z q2), decide_eq_true q2]
      rfl
    · rw [if_pos (k2.mpr q2), decide_eq_false q2]
      rfl
  · rw [if_pos (k1.mpr q1), decide_eq_false q1]
    rfl
theorem in32 (a l h : Int32) : f_X9_isIn n a.toInt64 l.toInt64 h.toInt64 = some (bI (decide (l ≤ a) && decide (a ≤ h))) := by
  rw [in64]
  have e1 : decide (l.toInt64 ≤ a.toInt64) = decide (l ≤ a) := decide_eq_decide.mpr (fa_wide_le l a)
  have e2 : decide (a.toInt64 ≤ h.toInt64) = decide (a ≤ h) := decide_eq_decide.mpr (fa_wide_le a h)
  rw [e1, e2]
/-- a number of something of which there are k -/
def vb (x : Int32) (k : Nat) : Bool := decide (0 ≤ x) && decide (x < nI k)
theorem vb_ok {x : Int32} {k : Nat} (hk : k < 2 ^ 31) (h : vb x k = true) : ∃ j, j < k ∧ x = nI j := by
  unfold vb at h
  have h1 := Bool.and_eq_true_iff.mp h
  rcases pk_ix x hk with q | q | q
  · exact absurd (of_decide_eq_true h1.1) (Int32.not_le.mpr q)
  · exact absurd (of_decide_eq_true h1.2) (Int32.not_lt.mpr q)
  · exact q
theorem vb_in {j k : Nat} (hj : j < k) (hk : k < 2 ^ 31) : vb (nI j) k = true := by
  unfold vb
  rw [decide_eq_true (nI_pos' (by omega)), decide_eq_true (nI_lt hj hk)]
  rfl
theorem le_pred {x : Int32} {k : Nat} (hk : k < 2 ^ 30) : (x ≤ nI k - 1) ↔ x < nI k := by
  have e : (nI k - 1 : Int32).toInt = (k : Int) - 1 := pk_sub_toInt (b := 1) hk (by decide)
  rw [fa_le, fa_lt, e, nI_toInt (by omega)]
  omega
theorem in_pred (x : Int32) {k : Nat} (hk : k < 2 ^ 30) : f_X9_isIn n x.toInt64 (0 : Int64) ((nI k - (1 : Int32)).toInt64) = some (bI (vb x k)) := by
  rw [show (0 : Int64) = (0 : Int32).toInt64 from by decide, in32]
  unfold vb
  rw [decide_eq_decide.mpr (le_pred hk)]
theorem m_isProcess (hU : Ru P NP E Bs F Pt Ap ru M) (v : Int32) : f_X9_isProcess n M v = some (bI (vb v NP)) := by
  have hNP : NP ≤ 8 := hU.2.2.2.2.1
  unfold f_X9_isProcess
  rw [hU.2.1.2.1, in_pred v (by omega), ebnd, egZ]
theorem m_isLoan (h : M.2.1 9 6 = nI LC) (hL : LC ≤ 80) (v : Int32) : f_X9_isLoan n M v = some (bI (vb v LC)) := by
  unfold f_X9_isLoan
  rw [gz6, h, in_pred v (by omega), ebnd, egZ]
theorem m_isClaim (h : M.2.1 9 7 = nI CC) (hL : CC ≤ 60) (v : Int32) : f_X9_isClaim n M v = some (bI (vb v CC)) := by
  unfold f_X9_isClaim
  rw [gz7, h, in_pred v (by omega), ebnd, egZ]
theorem need3 (v : Int32) (k : Nat) : (if v < 0 then some 1 else (if v < nI k then some 0 else some 1) : Option Nat) = some (if vb v k then 0 else 1) := by
  unfold vb
  by_cases h1 : v < 0
  · rw [if_pos h1, decide_eq_false (Int32.not_le.mpr h1)]
    rfl
  · rw [if_neg h1, decide_eq_true (Int32.not_lt.mp h1)]
    by_cases h2 : v < nI k
    · rw [if_pos h2, decide_eq_true h2]
      rfl
    · rw [if_neg h2, decide_eq_false h2]
      rfl
theorem c_needProcess {sv : Value} {th : OS} (hU : Ru P NP E Bs F Pt Ap ru M) (v : Int32) : f_X8_needProcess n sv th ru v = some (if vb v NP then 0 else 1) := by
  unfold f_X8_needProcess
  rw [hU.1.2.1]
  exact need3 v NP
theorem c_needLoan {sv : Value} {th : OS} (h : c.1 3 = nI LC) (v : Int32) : f_X8_needLoan n sv th c v = some (if vb v LC then 0 else 1) := by
  unfold f_X8_needLoan
  rw [h]
  exact need3 v LC
theorem c_needClaim {sv : Value} {th : OS} (h : c.1 4 = nI CC) (v : Int32) : f_X8_needClaim n sv th c v = some (if vb v CC then 0 else 1) := by
  unfold f_X8_needClaim
  rw [h]
  exact need3 v CC
/-- a fine that is known -/
def kn (f : Int32) (FC : Nat) : Bool := decide (nI (FC - 40) ≤ f) && decide (f < nI FC)
theorem kn_ok {f : Int32} (hF : FC < 2 ^ 30) (h : kn f FC = true) : ∃ j, j < FC ∧ FC - 40 ≤ j ∧ f = nI j ∧ j % 40 < FC := by
  unfold kn at h
  have h1 := Bool.and_eq_true_iff.mp h
  have h2 := of_decide_eq_true h1.1
  have h3 := of_decide_eq_true h1.2
  rcases pk_ix f (n := FC) (by omega) with q | q | ⟨j, q1, q2⟩
  · exfalso
    have := nI_pos' (n := FC - 40) (by omega)
    rw [fa_le] at h2 this
    rw [fa_lt] at q
    omega
  · exact absurd h3 (Int32.not_lt.mpr q)
  · subst q2
    rw [nI_leI (by omega) (by omega)] at h2
    refine ⟨j, q1, h2, rfl, ?_⟩
    have := Nat.mod_le j 40
    omega
theorem c_isKnown (h : c.1 5 = nI FC) (hF : FC < 2 ^ 30) (f : Int32) : f_X2_isKnown n c f = some (bI (kn f FC)) := by
  unfold f_X2_isKnown
  rw [h]
  have e1 : (nI FC - (40 : Int32)).toInt = (FC : Int) - 40 := pk_sub_toInt (b := 40) hF (by decide)
  have e2 : (nI (FC - 40)).toInt = ((FC - 40 : Nat) : Int) := nI_toInt (by omega)
  have e3 : (nI FC).toInt = (FC : Int) := nI_toInt (by omega)
  have e4 : (0 : Int32).toInt = 0 := by decide
  unfold kn
  by_cases h1 : f < 0
  · rw [if_pos h1]
    have : ¬ nI (FC - 40) ≤ f := by
      rw [fa_lt] at h1
      rw [fa_le]
      omega
    rw [decide_eq_false this]
    rfl
  · rw [if_neg h1]
    by_cases h2 : nI FC ≤ f
    · rw [if_pos h2, decide_eq_false (Int32.not_lt.mpr h2), Bool.and_false]
      rfl
    · rw [if_neg h2, decide_eq_true (Int32.not_le.mp h2), Bool.and_true]
      by_cases h3 : f < nI FC - (40 : Int32)
      · rw [if_pos h3]
        have : ¬ nI (FC - 40) ≤ f := by
          rw [fa_lt] at h3
          rw [fa_le]
          omega
        rw [decide_eq_false this]
        rfl
      · rw [if_neg h3]
        have : nI (FC - 40) ≤ f := by
          rw [fa_lt] at h3 h1
          rw [fa_le]
          omega
        rw [decide_eq_true this]
        rfl
theorem m_isKnown (h : M.2.1 9 4 = nI FC) (hF : FC < 2 ^ 30) (f : Int32) : f_X9_isKnown n M f = some (bI (kn f FC)) := by
  have e1 : (nI FC - (40 : Int32)).toInt = (FC : Int) - 40 := pk_sub_toInt (b := 40) hF (by decide)
  have eg : f_X9_greater n (0 : Int32) (nI FC - (40 : Int32)) = some (nI (FC - 40)) := by
    unfold f_X9_greater
    by_cases q : 40 ≤ FC
    · rw [show nI FC - (40 : Int32) = nI (FC - 40) from pk_sub (b := 40) q, if_pos (nI_pos' (by omega))]
    · have : ¬ (0 : Int32) ≤ nI FC - (40 : Int32) := by
        rw [fa_le, e1, show (0 : Int32).toInt = 0 from by decide]
        omega
      rw [if_neg this, show FC - 40 = 0 by omega]
      rfl
  unfold f_X9_isKnown
  rw [gz4, h, eg, ebnd, gz4, h, in32, ebnd, egZ]
  unfold kn
  rw [decide_eq_decide.mpr (le_pred hF)]
theorem c_needFine {sv : Value} {th : OS} (h : c.1 5 = nI FC) (hF : FC < 2 ^ 30) (f : Int32) : f_X8_needFine n sv th c f = some (if kn f FC then 0 else 4) := by
  unfold f_X8_needFine
  rw [c_isKnown h hF, ebnd, ifz]
  cases kn f FC <;> rfl
/-- ticks in their range -/
def tkb (v : Int32) : Bool := decide ((1 : Int32) ≤ v) && decide (v ≤ (500 : Int32))
theorem tkb_ok {v : Int32} (h : tkb v = true) : ∃ j, 1 ≤ j ∧ j ≤ 500 ∧ v = nI j := by
  unfold tkb at h
  have h1 := Bool.and_eq_true_iff.mp h
  have h2 := of_decide_eq_true h1.1
  have h3 := of_decide_eq_true h1.2
  have e1 : (1 : Int32).toInt = 1 := by decide
  have e5 : (500 : Int32).toInt = 500 := by decide
  rw [fa_le] at h2 h3
  rcases pk_ix v (n := 501) (by omega) with q | q | ⟨j, q1, q2⟩
  · rw [fa_lt, show (0 : Int32).toInt = 0 from by decide] at q
    omega
  · rw [fa_le, nI_toInt (by omega)] at q
    omega
  · subst q2
    rw [nI_toInt (by omega)] at h2
    exact ⟨j, by omega, by omega, rfl⟩
theorem c_needTicks {sv : Value} {th : OS} (v : Int32) : f_X8_needTicks n sv th v = some (if tkb v then 0 else 2) := by
  unfold f_X8_needTicks tkb
  by_cases h1 : v < 1
  · rw [if_pos h1, decide_eq_false (Int32.not_le.mpr h1)]
    rfl
  · rw [if_neg h1, decide_eq_true (Int32.not_lt.mp h1)]
    by_cases h2 : v ≤ 500
    · rw [if_pos h2, decide_eq_true h2]
      rfl
    · rw [if_neg h2, decide_eq_false h2]
      rfl
theorem m_areTicks (v : Int32) : f_X9_areTicks n v = some (bI (tkb v)) := by
  unfold f_X9_areTicks
  rw [show (1 : Int64) = (1 : Int32).toInt64 from by decide, show (500 : Int64) = (500 : Int32).toInt64 from by decide, in32, ebnd, egZ]
  rfl
end TOLD
/-- the law's helper and the model answer alike, and nothing else happened -/
def LK (M : OS) (o : Option ((Nat → Int64) × Int32)) (o2 : Option (OS × Int32)) : Prop := ∃ p3 k M' b, o = some (p3, k) ∧ o2 = some (M', b) ∧ EqM M M' ∧ M'.1 0 = k ∧ (k = 0 → p3 0 = b.toInt64)
def LQ (M : OS) (o : Option Int32) (o2 : Option (OS × Int32)) : Prop := ∃ r M', o = some r ∧ o2 = some (M', r) ∧ EqM M M'
theorem ho0 {β : Type} {p3 : Nat → Int64} {v : Int64} {f : (Nat → Int64) → Option β} : gI 1 (0 : Int32) (Let (vp_updL p3 (0 : Int32).toNatClampNeg v) f) = f (vp_updL p3 0 v) := by
  show gI 1 (nI 0) (Let (vp_updL p3 (nI 0).toNatClampNeg v) f) = f (vp_updL p3 0 v)
  rw [egN (by decide) (by decide), eLet, nI_clamp (by decide)]
theorem go0 {β : Type} {p3 : Nat → Int64} {f : Int64 → Option β} : gI 1 (0 : Int32) (Let (p3 (0 : Int32).toNatClampNeg) f) = f (p3 0) := by
  show gI 1 (nI 0) (Let (p3 (nI 0).toNatClampNeg) f) = f (p3 0)
  rw [egN (by decide) (by decide), eLet, nI_clamp (by decide)]
