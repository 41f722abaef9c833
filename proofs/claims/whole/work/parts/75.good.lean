/-! every call, and the law's whole run -/
theorem law_any {n D L i c : Nat} {xs : Nat → Int32} {sv : Value} {st : LST} (h : RLw D st) (hi : i + 5 < L) (hL : L ≤ 3072) (hn : 13000 < n) (hD : 2100 ≤ D) (hD2 : D ≤ 100000) (hc : c ≤ 47) : ∃ st', f_law_case n L xs (nI i) sv st c = some st' ∧ RLw (D + 99) st' := by
  have hc : c = 0 ∨ c = 1 ∨ c = 2 ∨ c = 3 ∨ c = 4 ∨ c = 5 ∨ c = 6 ∨ c = 7 ∨ c = 8 ∨ c = 9 ∨ c = 10 ∨ c = 11 ∨ c = 12 ∨ c = 13 ∨ c = 14 ∨ c = 15 ∨ c = 16 ∨ c = 17 ∨ c = 18 ∨ c = 19 ∨ c = 20 ∨ c = 21 ∨ c = 22 ∨ c = 23 ∨ c = 24 ∨ c = 25 ∨ c = 26 ∨ c = 27 ∨ c = 28 ∨ c = 29 ∨ c = 30 ∨ c = 31 ∨ c = 32 ∨ c = 33 ∨ c = 34 ∨ c = 35 ∨ c = 36 ∨ c = 37 ∨ c = 38 ∨ c = 39 ∨ c = 40 ∨ c = 41 ∨ c = 42 ∨ c = 43 ∨ c = 44 ∨ c = 45 ∨ c = 46 ∨ c = 47 := by omega
  rcases hc with rfl | rfl | rfl | rfl | rfl | rfl | rfl | rfl | rfl | rfl | rfl | rfl | rfl | rfl | rfl | rfl | rfl | rfl | rfl | rfl | rfl | rfl | rfl | rfl | rfl | rfl | rfl | rfl | rfl | rfl | rfl | rfl | rfl | rfl | rfl | rfl | rfl | rfl | rfl | rfl | rfl | rfl | rfl | rfl | rfl | rfl | rfl | rfl
  · exact law_0 (xs := xs) (sv := sv) h hi hL hn hD hD2
  · exact law_1 (xs := xs) (sv := sv) h hi hL hn hD hD2
  · exact law_2 (xs := xs) (sv := sv) h hi hL hn hD hD2
  · exact law_3 (xs := xs) (sv := sv) h hi hL hn hD hD2
  · exact law_4 (xs := xs) (sv := sv) h hi hL hn hD hD2
  · exact law_5 (xs := xs) (sv := sv) h hi hL hn hD hD2
  · exact law_6 (xs := xs) (sv := sv) h hi hL hn hD hD2
  · exact law_7 (xs := xs) (sv := sv) h hi hL hn hD hD2
  · exact law_8 (xs := xs) (sv := sv) h hi hL hn hD hD2
  · exact law_9 (xs := xs) (sv := sv) h hi hL hn hD hD2
  · exact law_10 (xs := xs) (sv := sv) h hi hL hn hD hD2
  · exact law_11 (xs := xs) (sv := sv) h hi hL hn hD hD2
  · exact law_12 (xs := xs) (sv := sv) h hi hL hn hD hD2
  · exact law_13 (xs := xs) (sv := sv) h hi hL hn hD hD2
  · exact law_14 (xs := xs) (sv := sv) h hi hL hn hD hD2
  · exact law_15 (xs := xs) (sv := sv) h hi hL hn hD hD2
  · exact law_16 (xs := xs) (sv := sv) h hi hL hn hD hD2
  · exact law_17 (xs := xs) (sv := sv) h hi hL hn hD hD2
  · exact law_18 (xs := xs) (sv := sv) h hi hL hn hD hD2
  · exact law_19 (xs := xs) (sv := sv) h hi hL hn hD hD2
  · exact law_20 (xs := xs) (sv := sv) h hi hL hn hD hD2
  · exact law_21 (xs := xs) (sv := sv) h hi hL hn hD hD2
  · exact law_22 (xs := xs) (sv := sv) h hi hL hn hD hD2
  · exact law_23 (xs := xs) (sv := sv) h hi hL hn hD hD2
  · exact law_24 (xs := xs) (sv := sv) h hi hL hn hD hD2
  · exact law_25 (xs := xs) (sv := sv) h hi hL hn hD hD2
  · exact law_26 (xs := xs) (sv := sv) h hi hL hn hD hD2
  · exact law_27 (xs := xs) (sv := sv) h hi hL hn hD hD2
  · exact law_28 (xs := xs) (sv := sv) h hi hL hn hD hD2
  · exact law_29 (xs := xs) (sv := sv) h hi hL hn hD hD2
  · exact law_30 (xs := xs) (sv := sv) h hi hL hn hD hD2
  · exact law_31 (xs := xs) (sv := sv) h hi hL hn hD hD2
  · exact law_32 (xs := xs) (sv := sv) h hi hL hn hD hD2
  · exact law_33 (xs := xs) (sv := sv) h hi hL hn hD hD2
  · exact law_34 (xs := xs) (sv := sv) h hi hL hn hD hD2
  · exact law_35 (xs := xs) (sv := sv) h hi hL hn hD hD2
  · exact law_36 (xs := xs) (sv := sv) h hi hL hn hD hD2
  · exact law_37 (xs := xs) (sv := sv) h hi hL hn hD hD2
  · exact law_38 (xs := xs) (sv := sv) h hi hL hn hD hD2
  · exact law_39 (xs := xs) (sv := sv) h hi hL hn hD hD2
  · exact law_40 (xs := xs) (sv := sv) h hi hL hn hD hD2
  · exact law_41 (xs := xs) (sv := sv) h hi hL hn hD hD2
  · exact law_42 (xs := xs) (sv := sv) h hi hL hn hD hD2
  · exact law_43 (xs := xs) (sv := sv) h hi hL hn hD hD2
  · exact law_44 (xs := xs) (sv := sv) h hi hL hn hD hD2
  · exact law_45 (xs := xs) (sv := sv) h hi hL hn hD hD2
  · exact law_46 (xs := xs) (sv := sv) h hi hL hn hD hD2
  · exact ⟨st, rfl, h.mono (by omega)⟩
theorem caseOf_le (v : Int32) : caseOf v ≤ 47 := by
  unfold caseOf
  split <;> omega
theorem good {n L : Nat} {xs : Nat → Int32} (hL : L ≤ 3072) (hn : 13000 < n) : ∀ (N t : Nat) (st : LST), RLw (2100 + 99 * t) st → 6 * t ≤ L → L + 6 ≤ 6 * (t + N) → Lgood n L xs N (nI (6 * t)) st := by
  intro N
  induction N with
  | zero =>
    intro t st h h1 h2
    exfalso
    omega
  | succ N ih =>
    intro t st h h1 h2
    show (Int32.ofNat L) - (6 : Int32) < nI (6 * t) ∨ (¬ (Int32.ofNat L) - (6 : Int32) < nI (6 * t) ∧ vp_in (nI (6 * t)) L ∧ ∀ sv : Value, ∃ st' : LST, f_law_case n L xs (nI (6 * t)) sv st (caseOf (xs (nI (6 * t)).toNatClampNeg &&& 63)) = some st' ∧ Lgood n L xs N (nI (6 * t) + (6 : Int32)) st')
    by_cases q : (Int32.ofNat L) - (6 : Int32) < nI (6 * t)
    · exact Or.inl q
    · have e1 : (nI L - (6 : Int32)).toInt = (L : Int) - 6 := pk_sub_toInt (b := 6) (by omega) (by decide)
      have q2 : ¬ nI L - (6 : Int32) < nI (6 * t) := q
      rw [fa_lt, e1, nI_toInt (by omega)] at q2
      have h6 : 6 * t + 6 ≤ L := by omega
      refine Or.inr ⟨q, vp_in_nI (by omega) (by omega), fun sv => ?_⟩
      obtain ⟨st', s1, s2⟩ := law_any (n := n) (xs := xs) (sv := sv) (i := 6 * t) h (by omega) hL hn (by omega) (by omega) (caseOf_le (xs (nI (6 * t)).toNatClampNeg &&& 63))
      refine ⟨st', s1, ?_⟩
      have e2 : nI (6 * t) + (6 : Int32) = nI (6 * (t + 1)) := nI_add (6 * t) 6
      rw [e2]
      exact ih (t + 1) st' (s2.mono (by omega)) (by omega) (by omega)
