/-! the text: bytes, kinds, tokens -/
/-- the kind of the byte at i: 0 none, 1 blank, 2 strange, 3 semicolon, 4 letter, 5 digit -/
def kd (B : Nat → Nat) (len i : Nat) : Nat := if i < len then (if B i = 32 then 1 else if B i = 10 then 1 else if B i = 59 then 3 else if 97 ≤ B i ∧ B i ≤ 122 then 4 else if 48 ≤ B i ∧ B i ≤ 57 then 5 else 2) else 0
def skp (B : Nat → Nat) (len : Nat) : Nat → Nat → Nat
  | 0, e => e
  | d + 1, e => if kd B len e = 1 then skp B len d (e + 1) else e
def rne (B : Nat → Nat) (len k : Nat) : Nat → Nat → Nat
  | 0, e => e
  | d + 1, e => if kd B len e = k then rne B len k d (e + 1) else e
theorem kd_le (B : Nat → Nat) (len i : Nat) : kd B len i ≤ 5 := by
  unfold kd
  repeat (first | split | omega)
theorem kd_0 {B : Nat → Nat} {len i : Nat} : kd B len i = 0 ↔ len ≤ i := by
  unfold kd
  constructor
  · intro h
    by_cases q : i < len
    · rw [if_pos q] at h
      exfalso
      revert h
      repeat (first | split | (intro h; omega))
    · omega
  · intro h
    rw [if_neg (by omega)]
theorem skp_ge (B : Nat → Nat) (len : Nat) : ∀ d e, e ≤ skp B len d e ∧ skp B len d e ≤ e + d
  | 0, e => ⟨Nat.le_refl _, Nat.le_refl _⟩
  | d + 1, e => by
    unfold skp
    have := skp_ge B len d (e + 1)
    split <;> omega
theorem skp_not (B : Nat → Nat) (len : Nat) : ∀ d e, len ≤ e + d → kd B len (skp B len d e) ≠ 1
  | 0, e, h => by
    have : kd B len e = 0 := kd_0.mpr (by omega)
    show kd B len e ≠ 1
    omega
  | d + 1, e, h => by
    unfold skp
    by_cases q : kd B len e = 1
    · rw [if_pos q]
      exact skp_not B len d (e + 1) (by omega)
    · rw [if_neg q]
      exact q
theorem skp_fix {B : Nat → Nat} {len : Nat} : ∀ d e, kd B len e ≠ 1 → skp B len d e = e
  | 0, _, _ => rfl
  | d + 1, e, h => by
    unfold skp
    rw [if_neg h]
theorem rne_ge (B : Nat → Nat) (len k : Nat) : ∀ d e, e ≤ rne B len k d e ∧ rne B len k d e ≤ e + d
  | 0, e => ⟨Nat.le_refl _, Nat.le_refl _⟩
  | d + 1, e => by
    unfold rne
    have := rne_ge B len k d (e + 1)
    split <;> omega
theorem rne_all (B : Nat → Nat) (len k : Nat) : ∀ d e i, e ≤ i → i < rne B len k d e → kd B len i = k
  | 0, e, i, h1, h2 => by
    have : rne B len k 0 e = e := rfl
    omega
  | d + 1, e, i, h1, h2 => by
    unfold rne at h2
    by_cases q : kd B len e = k
    · rw [if_pos q] at h2
      rcases Nat.eq_or_lt_of_le h1 with h3 | h3
      · rw [← h3]
        exact q
      · exact rne_all B len k d (e + 1) i h3 h2
    · rw [if_neg q] at h2
      omega
theorem rne_not (B : Nat → Nat) (len k : Nat) (hk : k ≠ 0) : ∀ d e, len ≤ e + d → kd B len (rne B len k d e) ≠ k
  | 0, e, h => by
    have : kd B len e = 0 := kd_0.mpr (by omega)
    show kd B len e ≠ k
    omega
  | d + 1, e, h => by
    unfold rne
    by_cases q : kd B len e = k
    · rw [if_pos q]
      exact rne_not B len k hk d (e + 1) (by omega)
    · rw [if_neg q]
      exact q
/-! the token behind e: its start, its kind, its end -/
def tS (B : Nat → Nat) (len e : Nat) : Nat := skp B len (len - e) e
def tE (B : Nat → Nat) (len e : Nat) : Nat :=
  if kd B len (tS B len e) = 0 then tS B len e
  else if kd B len (tS B len e) = 4 ∨ kd B len (tS B len e) = 5 then rne B len (kd B len (tS B len e)) (len - (tS B len e + 1)) (tS B len e + 1)
  else tS B len e + 1
theorem tS_le {B : Nat → Nat} {len e : Nat} (h : e ≤ len) : e ≤ tS B len e ∧ tS B len e ≤ len := by
  have := skp_ge B len (len - e) e
  unfold tS
  omega
theorem tS_nb {B : Nat → Nat} {len e : Nat} (h : e ≤ len) : kd B len (tS B len e) ≠ 1 := skp_not B len _ _ (by omega)
theorem tE_le {B : Nat → Nat} {len e : Nat} (h : e ≤ len) : tS B len e ≤ tE B len e ∧ tE B len e ≤ len ∧ (kd B len (tS B len e) ≠ 0 → tS B len e < tE B len e) := by
  have h1 := tS_le (B := B) h
  unfold tE
  by_cases q : kd B len (tS B len e) = 0
  · rw [if_pos q]
    exact ⟨Nat.le_refl _, h1.2, fun z => absurd q z⟩
  · have h2 : tS B len e < len := by
      rcases Nat.lt_or_ge (tS B len e) len with z | z
      · exact z
      · exact absurd (kd_0.mpr z) q
    rw [if_neg q]
    split
    · have := rne_ge B len (kd B len (tS B len e)) (len - (tS B len e + 1)) (tS B len e + 1)
      omega
    · omega
/-! the words of the grammar -/
def wch (i k : Nat) : Nat := ((sBytL.getD i []).getD k 0).toNatClampNeg
def wln (i : Nat) : Nat := sLenL.getD i 0
def mtc (B : Nat → Nat) (s i : Nat) : Nat → Bool
  | 0 => true
  | k + 1 => mtc B s i k && decide (wch i k = B (s + k))
def mtw (B : Nat → Nat) (s e i : Nat) : Bool := decide (wln i = e - s) && mtc B s i (wln i)
/-- the first word from i on that stands from s to e, 14 if there is none -/
def fwd (B : Nat → Nat) (s e : Nat) : Nat → Nat → Nat
  | 0, i => i
  | d + 1, i => if mtw B s e i then i else fwd B s e d (i + 1)
/-- the word's number in the enum: 0 for none -/
def wdx (B : Nat → Nat) (s e : Nat) : Nat := fwd B s e 13 1 % 14
theorem wch_ok : ∀ i, i < 14 → ∀ k, k < wln i → sChr (nI i) (nI k) = nI (wch i k) ∧ 97 ≤ wch i k ∧ wch i k ≤ 122 := by decide +kernel
theorem wln_ok : ∀ i, i < 14 → sLen (nI i) = nI (wln i) ∧ wln i ≤ 8 ∧ sLenL.getD i 0 = wln i := by decide +kernel
def wof (n : Nat) : Nat := [0, 6, 14, 20, 25, 30, 39, 46, 52, 58, 64, 70, 75, 79].getD n 79
theorem wof_ok : ∀ n, n < 13 → wof n + wln (n + 1) + 1 = wof (n + 1) ∧ sChr 14 (nI (wof n + wln (n + 1))) = 32 ∧ (∀ k, k < wln (n + 1) → sChr 14 (nI (wof n + k)) = nI (wch (n + 1) k) ∧ sChr 14 (nI (wof n + k)) ≠ 32) := by decide +kernel
theorem wof_le : ∀ n, n < 14 → wof n ≤ 79 := by decide +kernel
theorem by8_ok : ∀ b, b < 256 → by8 b &&& 255 = nI b ∧ (b < 128 → by8 b = nI b) ∧ ((by8 b).toInt < 97 ∨ 122 < (by8 b).toInt ∨ (97 ≤ b ∧ b ≤ 122)) := by decide +kernel
section LEX
variable {n len : Nat} {inp rd M : OS} {B : Nat → Nat}
/-- the text lies in both inputs -/
def Tx (B : Nat → Nat) (len : Nat) (inp M : OS) : Prop := len ≤ 600 ∧ inp.1 1 = nI len ∧ M.1 24 = nI len ∧ ∀ i, i < len → B i < 256 ∧ inp.2.1 0 i = by8 (B i) ∧ M.2.1 22 i = by8 (B i)
theorem c_at (h : Tx B len inp M) {i : Nat} (hi : i < 2 ^ 31) : f_X1_at n 600 inp (nI i) = some (if i < len then nI (B i) else -1) := by
  obtain ⟨h1, h2, h3, h4⟩ := h
  unfold f_X1_at
  rw [if_neg (nI_pos hi), h2]
  by_cases q : i < len
  · rw [if_neg (nI_ge q (by omega)), if_neg (show ¬ Int32.ofNat 600 ≤ nI i from nI_ge (a := i) (b := 600) (by omega) (by decide)), egN (by omega) (by decide), eLet, nI_clamp hi, (h4 i q).2.1, (by8_ok _ (h4 i q).1).1, if_pos q]
  · rw [if_pos (nI_le (by omega) hi), if_neg q]
theorem m_here (h : Tx B len inp M) {i : Nat} (hi : i < 2 ^ 31) : f_X9_here n M (nI i) = some (if i < len then nI (B i) else -1) := by
  obtain ⟨h1, h2, h3, h4⟩ := h
  unfold f_X9_here
  rw [h3]
  by_cases q : i < len
  · rw [if_neg (nI_ge q (by omega)), egN (by omega) (by decide), eLet, nI_clamp hi, (h4 i q).2.2, (by8_ok _ (h4 i q).1).1, if_pos q]
  · rw [if_pos (nI_le (by omega) hi), if_neg q]
theorem c_kindAt (h : Tx B len inp M) {i : Nat} (hi : i < 2 ^ 31) : f_X4_kindAt n rd 600 inp (nI i) = some (nI (kd B len i)) := by
  unfold f_X4_kindAt j_X4_kindAt_52 kd
  rw [c_at h hi, ebnd]
  by_cases q : i < len
  · have hb := (h.2.2.2 i q).1
    rw [if_pos q, if_pos q, if_neg (nI_m1 _ (by omega))]
    by_cases q1 : B i = 32
    · rw [q1, if_pos rfl, if_pos (show nI 32 = (32 : Int32) from rfl)]
      rfl
    · rw [if_neg q1, if_neg (show ¬ nI (B i) = (32 : Int32) from fun z => q1 (nI_inj (b := 32) (by omega) (by decide) z))]
      by_cases q2 : B i = 10
      · rw [q2, if_pos rfl, if_pos (show nI 10 = (10 : Int32) from rfl)]
        rfl
      · rw [if_neg q2, if_neg (show ¬ nI (B i) = (10 : Int32) from fun z => q2 (nI_inj (b := 10) (by omega) (by decide) z))]
        by_cases q3 : B i = 59
        · rw [q3, if_pos rfl, if_pos (show nI 59 = (59 : Int32) from rfl)]
          rfl
        · rw [if_neg q3, if_neg (show ¬ nI (B i) = (59 : Int32) from fun z => q3 (nI_inj (b := 59) (by omega) (by decide) z))]
          have dg : (if nI (B i) < (48 : Int32) then some (2 : Int32) else (if (57 : Int32) < nI (B i) then some (2 : Int32) else some (5 : Int32))) = some (nI (if 48 ≤ B i ∧ B i ≤ 57 then 5 else 2)) := by
            by_cases q6 : B i < 48
            · rw [if_pos (show nI (B i) < (48 : Int32) from nI_lt (b := 48) q6 (by decide)), if_neg (by omega)]
              rfl
            · rw [if_neg (show ¬ nI (B i) < (48 : Int32) from nI_nlt (b := 48) (by omega) (by omega))]
              by_cases q7 : 57 < B i
              · rw [if_pos (show (57 : Int32) < nI (B i) from nI_lt (a := 57) q7 (by omega)), if_neg (by omega)]
                rfl
              · rw [if_neg (show ¬ (57 : Int32) < nI (B i) from nI_nlt (a := 57) (by omega) (by decide)), if_pos (by omega)]
                rfl
          by_cases q4 : B i < 97
          · rw [if_pos (show nI (B i) < (97 : Int32) from nI_lt (b := 97) q4 (by decide)), if_neg (show ¬ (97 ≤ B i ∧ B i ≤ 122) by omega)]
            exact dg
          · rw [if_neg (show ¬ nI (B i) < (97 : Int32) from nI_nlt (b := 97) (by omega) (by omega))]
            by_cases q5 : 122 < B i
            · rw [if_pos (show (122 : Int32) < nI (B i) from nI_lt (a := 122) q5 (by omega)), if_neg (show ¬ (97 ≤ B i ∧ B i ≤ 122) by omega)]
              exact dg
            · rw [if_neg (show ¬ (122 : Int32) < nI (B i) from nI_nlt (a := 122) (by omega) (by decide)), if_pos (show 97 ≤ B i ∧ B i ≤ 122 by omega)]
              rfl
  · rw [if_neg q, if_neg q]
    rfl
theorem m_isLetter (h : Tx B len inp M) {i : Nat} (hi : i < 2 ^ 31) : f_X9_isLetter n M (nI i) = some (bI (decide (kd B len i = 4))) := by
  unfold f_X9_isLetter
  rw [m_here h hi, ebnd, show (97 : Int64) = (97 : Int32).toInt64 from by decide, show (122 : Int64) = (122 : Int32).toInt64 from by decide, in32, ebnd, egZ]
  apply congrArg (fun z => some (bI z))
  unfold kd
  by_cases q : i < len
  · have hb := (h.2.2.2 i q).1
    rw [if_pos q, if_pos q]
    have e1 : ((97 : Int32) ≤ nI (B i)) ↔ 97 ≤ B i := nI_leI (a := 97) (by decide) (by omega)
    have e2 : (nI (B i) ≤ (122 : Int32)) ↔ B i ≤ 122 := nI_leI (b := 122) (by omega) (by decide)
    rw [decide_eq_decide.mpr e1, decide_eq_decide.mpr e2]
    by_cases q4 : 97 ≤ B i ∧ B i ≤ 122
    · rw [decide_eq_true q4.1, decide_eq_true q4.2, if_neg (by omega), if_neg (by omega), if_neg (by omega), if_pos q4]
      rfl
    · have : (decide (97 ≤ B i) && decide (B i ≤ 122)) = false := by
        rw [← Bool.not_eq_true, Bool.and_eq_true, decide_eq_true_eq, decide_eq_true_eq]
        exact q4
      rw [this, if_neg q4]
      symm
      apply decide_eq_false
      repeat (first | split | omega)
  · rw [if_neg q, if_neg q]
    rfl
theorem m_isDigit (h : Tx B len inp M) {i : Nat} (hi : i < 2 ^ 31) : f_X9_isIn n ((if i < len then nI (B i) else -1 : Int32).toInt64) (48 : Int64) (57 : Int64) = some (bI (decide (kd B len i = 5))) := by
  rw [show (48 : Int64) = (48 : Int32).toInt64 from by decide, show (57 : Int64) = (57 : Int32).toInt64 from by decide, in32]
  apply congrArg (fun z => some (bI z))
  unfold kd
  by_cases q : i < len
  · have hb := (h.2.2.2 i q).1
    rw [if_pos q, if_pos q]
    have e1 : ((48 : Int32) ≤ nI (B i)) ↔ 48 ≤ B i := nI_leI (a := 48) (by decide) (by omega)
    have e2 : (nI (B i) ≤ (57 : Int32)) ↔ B i ≤ 57 := nI_leI (b := 57) (by omega) (by decide)
    rw [decide_eq_decide.mpr e1, decide_eq_decide.mpr e2]
    by_cases q4 : 48 ≤ B i ∧ B i ≤ 57
    · rw [decide_eq_true q4.1, decide_eq_true q4.2, if_neg (by omega), if_neg (by omega), if_neg (by omega), if_neg (by omega), if_pos q4]
      rfl
    · have : (decide (48 ≤ B i) && decide (B i ≤ 57)) = false := by
        rw [← Bool.not_eq_true, Bool.and_eq_true, decide_eq_true_eq, decide_eq_true_eq]
        exact q4
      rw [this, if_neg q4]
      symm
      apply decide_eq_false
      repeat (first | split | omega)
  · rw [if_neg q, if_neg q]
    rfl
end LEX
