/-! what the statics hold, at the start -/
def sIdxL : List Nat := [104, 110, 113, 116, 119, 122, 125, 128, 131, 134, 137, 140, 143, 146]
def sTm (i : Nat) : Term := if i = 14 then .string RX9 373 else .string RX7 (sIdxL.getD i 0)
def wTm (i : Nat) : Term := .static RX7 (wNameL.getD i "") "LMemoryCourt$Word;"
def GF : List Cond := flatC (Jvm.Cond.and given_1 narrow_1)
theorem g_ex : ∀ i, i < 14 → Cond.exactly (wTm i) RX7 ∈ GF := by decide +kernel
theorem g_lay : ∀ i, i < 14 → Cond.laysStatic RX7 (wNameL.getD i "") "LMemoryCourt$Word;" ∈ lw_tbl := by decide +kernel
theorem g_bit : ∀ i, i < 14 → Cond.eq (.field (wTm i) RX7 "bit" "I") (.int (wBitL.getD i 0)) ∈ GF := by decide +kernel
theorem g_low : ∀ i, i < 14 → Cond.eq (.field (wTm i) RX7 "low" "I") (.int (wLowL.getD i 0)) ∈ GF := by decide +kernel
theorem g_high : ∀ i, i < 14 → Cond.eq (.field (wTm i) RX7 "high" "I") (.int (wHighL.getD i 0)) ∈ GF := by decide +kernel
theorem g_usual : ∀ i, i < 14 → Cond.eq (.field (wTm i) RX7 "usual" "I") (.int (wUsualL.getD i 0)) ∈ GF := by decide +kernel
theorem g_ord : ∀ i, i < 14 → Cond.eq (.field (wTm i) "java/lang/Enum" "ordinal" "I") (.int (nI i)) ∈ GF := by decide +kernel
theorem g_text : ∀ i, i < 14 → Cond.eq (.field (wTm i) RX7 "text" "Ljava/lang/String;") (sTm i) ∈ GF := by decide +kernel
theorem g_all : ∀ i, i < 14 → Cond.eq (.elem (.static RX7 "ALL" "[LMemoryCourt$Word;") (.int (Int32.ofNat i))) (wTm i) ∈ GF := by decide +kernel
theorem g_map : ∀ i, i < 14 → Cond.eq (.elem (.static RX0 "$SwitchMap$MemoryCourt$Word" "[I") (.int (Int32.ofNat i))) (.int (wMapL.getD i 0)) ∈ GF := by decide +kernel
theorem g_ne_0 : ∀ j, j < 14 → 0 ≠ j → (Cond.not (.eq (wTm 0) (wTm j)) ∈ GF ∨ Cond.not (.eq (wTm j) (wTm 0)) ∈ GF) := by decide +kernel
theorem g_ne_1 : ∀ j, j < 14 → 1 ≠ j → (Cond.not (.eq (wTm 1) (wTm j)) ∈ GF ∨ Cond.not (.eq (wTm j) (wTm 1)) ∈ GF) := by decide +kernel
theorem g_ne_2 : ∀ j, j < 14 → 2 ≠ j → (Cond.not (.eq (wTm 2) (wTm j)) ∈ GF ∨ Cond.not (.eq (wTm j) (wTm 2)) ∈ GF) := by decide +kernel
theorem g_ne_3 : ∀ j, j < 14 → 3 ≠ j → (Cond.not (.eq (wTm 3) (wTm j)) ∈ GF ∨ Cond.not (.eq (wTm j) (wTm 3)) ∈ GF) := by decide +kernel
theorem g_ne_4 : ∀ j, j < 14 → 4 ≠ j → (Cond.not (.eq (wTm 4) (wTm j)) ∈ GF ∨ Cond.not (.eq (wTm j) (wTm 4)) ∈ GF) := by decide +kernel
theorem g_ne_5 : ∀ j, j < 14 → 5 ≠ j → (Cond.not (.eq (wTm 5) (wTm j)) ∈ GF ∨ Cond.not (.eq (wTm j) (wTm 5)) ∈ GF) := by decide +kernel
theorem g_ne_6 : ∀ j, j < 14 → 6 ≠ j → (Cond.not (.eq (wTm 6) (wTm j)) ∈ GF ∨ Cond.not (.eq (wTm j) (wTm 6)) ∈ GF) := by decide +kernel
theorem g_ne_7 : ∀ j, j < 14 → 7 ≠ j → (Cond.not (.eq (wTm 7) (wTm j)) ∈ GF ∨ Cond.not (.eq (wTm j) (wTm 7)) ∈ GF) := by decide +kernel
theorem g_ne_8 : ∀ j, j < 14 → 8 ≠ j → (Cond.not (.eq (wTm 8) (wTm j)) ∈ GF ∨ Cond.not (.eq (wTm j) (wTm 8)) ∈ GF) := by decide +kernel
theorem g_ne_9 : ∀ j, j < 14 → 9 ≠ j → (Cond.not (.eq (wTm 9) (wTm j)) ∈ GF ∨ Cond.not (.eq (wTm j) (wTm 9)) ∈ GF) := by decide +kernel
theorem g_ne_10 : ∀ j, j < 14 → 10 ≠ j → (Cond.not (.eq (wTm 10) (wTm j)) ∈ GF ∨ Cond.not (.eq (wTm j) (wTm 10)) ∈ GF) := by decide +kernel
theorem g_ne_11 : ∀ j, j < 14 → 11 ≠ j → (Cond.not (.eq (wTm 11) (wTm j)) ∈ GF ∨ Cond.not (.eq (wTm j) (wTm 11)) ∈ GF) := by decide +kernel
theorem g_ne_12 : ∀ j, j < 14 → 12 ≠ j → (Cond.not (.eq (wTm 12) (wTm j)) ∈ GF ∨ Cond.not (.eq (wTm j) (wTm 12)) ∈ GF) := by decide +kernel
theorem g_ne_13 : ∀ j, j < 14 → 13 ≠ j → (Cond.not (.eq (wTm 13) (wTm j)) ∈ GF ∨ Cond.not (.eq (wTm j) (wTm 13)) ∈ GF) := by decide +kernel
theorem g_ne : ∀ i, i < 14 → ∀ j, j < 14 → i ≠ j → (Cond.not (.eq (wTm i) (wTm j)) ∈ GF ∨ Cond.not (.eq (wTm j) (wTm i)) ∈ GF) := fun i hi => match i, hi with
  | 0, _ => g_ne_0
  | 1, _ => g_ne_1
  | 2, _ => g_ne_2
  | 3, _ => g_ne_3
  | 4, _ => g_ne_4
  | 5, _ => g_ne_5
  | 6, _ => g_ne_6
  | 7, _ => g_ne_7
  | 8, _ => g_ne_8
  | 9, _ => g_ne_9
  | 10, _ => g_ne_10
  | 11, _ => g_ne_11
  | 12, _ => g_ne_12
  | 13, _ => g_ne_13
  | i + 14, h => absurd h (by omega)
theorem s_ex : ∀ i, i < 15 → Cond.exactly (sTm i) "java/lang/String" ∈ GF := by decide +kernel
theorem s_co : ∀ i, i < 15 → Cond.eq (.field (sTm i) "java/lang/String" "coder" "B") (.int 0) ∈ GF := by decide +kernel
theorem s_ar : ∀ i, i < 15 → Cond.arrayOf (.field (sTm i) "java/lang/String" "value" "[B") .byte ∈ GF := by decide +kernel
theorem s_le : ∀ i, i < 15 → Cond.eq (.length (.field (sTm i) "java/lang/String" "value" "[B")) (.int (Int32.ofNat (sLenL.getD i 0))) ∈ GF := by decide +kernel
theorem s_lt : ∀ i, i < 15 → sLenL.getD i 0 < 2 ^ 31 := by decide +kernel
theorem s_el_0 : ∀ j, j < sLenL.getD 0 0 → Cond.eq (.elem (.field (sTm 0) "java/lang/String" "value" "[B") (.int (Int32.ofNat j))) (.int ((sBytL.getD 0 []).getD j 0)) ∈ GF := by decide +kernel
theorem s_el_1 : ∀ j, j < sLenL.getD 1 0 → Cond.eq (.elem (.field (sTm 1) "java/lang/String" "value" "[B") (.int (Int32.ofNat j))) (.int ((sBytL.getD 1 []).getD j 0)) ∈ GF := by decide +kernel
theorem s_el_2 : ∀ j, j < sLenL.getD 2 0 → Cond.eq (.elem (.field (sTm 2) "java/lang/String" "value" "[B") (.int (Int32.ofNat j))) (.int ((sBytL.getD 2 []).getD j 0)) ∈ GF := by decide +kernel
theorem s_el_3 : ∀ j, j < sLenL.getD 3 0 → Cond.eq (.elem (.field (sTm 3) "java/lang/String" "value" "[B") (.int (Int32.ofNat j))) (.int ((sBytL.getD 3 []).getD j 0)) ∈ GF := by decide +kernel
theorem s_el_4 : ∀ j, j < sLenL.getD 4 0 → Cond.eq (.elem (.field (sTm 4) "java/lang/String" "value" "[B") (.int (Int32.ofNat j))) (.int ((sBytL.getD 4 []).getD j 0)) ∈ GF := by decide +kernel
theorem s_el_5 : ∀ j, j < sLenL.getD 5 0 → Cond.eq (.elem (.field (sTm 5) "java/lang/String" "value" "[B") (.int (Int32.ofNat j))) (.int ((sBytL.getD 5 []).getD j 0)) ∈ GF := by decide +kernel
theorem s_el_6 : ∀ j, j < sLenL.getD 6 0 → Cond.eq (.elem (.field (sTm 6) "java/lang/String" "value" "[B") (.int (Int32.ofNat j))) (.int ((sBytL.getD 6 []).getD j 0)) ∈ GF := by decide +kernel
theorem s_el_7 : ∀ j, j < sLenL.getD 7 0 → Cond.eq (.elem (.field (sTm 7) "java/lang/String" "value" "[B") (.int (Int32.ofNat j))) (.int ((sBytL.getD 7 []).getD j 0)) ∈ GF := by decide +kernel
theorem s_el_8 : ∀ j, j < sLenL.getD 8 0 → Cond.eq (.elem (.field (sTm 8) "java/lang/String" "value" "[B") (.int (Int32.ofNat j))) (.int ((sBytL.getD 8 []).getD j 0)) ∈ GF := by decide +kernel
theorem s_el_9 : ∀ j, j < sLenL.getD 9 0 → Cond.eq (.elem (.field (sTm 9) "java/lang/String" "value" "[B") (.int (Int32.ofNat j))) (.int ((sBytL.getD 9 []).getD j 0)) ∈ GF := by decide +kernel
theorem s_el_10 : ∀ j, j < sLenL.getD 10 0 → Cond.eq (.elem (.field (sTm 10) "java/lang/String" "value" "[B") (.int (Int32.ofNat j))) (.int ((sBytL.getD 10 []).getD j 0)) ∈ GF := by decide +kernel
theorem s_el_11 : ∀ j, j < sLenL.getD 11 0 → Cond.eq (.elem (.field (sTm 11) "java/lang/String" "value" "[B") (.int (Int32.ofNat j))) (.int ((sBytL.getD 11 []).getD j 0)) ∈ GF := by decide +kernel
theorem s_el_12 : ∀ j, j < sLenL.getD 12 0 → Cond.eq (.elem (.field (sTm 12) "java/lang/String" "value" "[B") (.int (Int32.ofNat j))) (.int ((sBytL.getD 12 []).getD j 0)) ∈ GF := by decide +kernel
theorem s_el_13 : ∀ j, j < sLenL.getD 13 0 → Cond.eq (.elem (.field (sTm 13) "java/lang/String" "value" "[B") (.int (Int32.ofNat j))) (.int ((sBytL.getD 13 []).getD j 0)) ∈ GF := by decide +kernel
theorem s_e14_0 : ∀ j, j < 10 → Cond.eq (.elem (.field (sTm 14) "java/lang/String" "value" "[B") (.int (Int32.ofNat (j + 0)))) (.int ((sBytL.getD 14 []).getD (j + 0) 0)) ∈ GF := by decide +kernel
theorem s_e14_10 : ∀ j, j < 10 → Cond.eq (.elem (.field (sTm 14) "java/lang/String" "value" "[B") (.int (Int32.ofNat (j + 10)))) (.int ((sBytL.getD 14 []).getD (j + 10) 0)) ∈ GF := by decide +kernel
theorem s_e14_20 : ∀ j, j < 10 → Cond.eq (.elem (.field (sTm 14) "java/lang/String" "value" "[B") (.int (Int32.ofNat (j + 20)))) (.int ((sBytL.getD 14 []).getD (j + 20) 0)) ∈ GF := by decide +kernel
theorem s_e14_30 : ∀ j, j < 10 → Cond.eq (.elem (.field (sTm 14) "java/lang/String" "value" "[B") (.int (Int32.ofNat (j + 30)))) (.int ((sBytL.getD 14 []).getD (j + 30) 0)) ∈ GF := by decide +kernel
theorem s_e14_40 : ∀ j, j < 10 → Cond.eq (.elem (.field (sTm 14) "java/lang/String" "value" "[B") (.int (Int32.ofNat (j + 40)))) (.int ((sBytL.getD 14 []).getD (j + 40) 0)) ∈ GF := by decide +kernel
theorem s_e14_50 : ∀ j, j < 10 → Cond.eq (.elem (.field (sTm 14) "java/lang/String" "value" "[B") (.int (Int32.ofNat (j + 50)))) (.int ((sBytL.getD 14 []).getD (j + 50) 0)) ∈ GF := by decide +kernel
theorem s_e14_60 : ∀ j, j < 10 → Cond.eq (.elem (.field (sTm 14) "java/lang/String" "value" "[B") (.int (Int32.ofNat (j + 60)))) (.int ((sBytL.getD 14 []).getD (j + 60) 0)) ∈ GF := by decide +kernel
theorem s_e14_70 : ∀ j, j < 9 → Cond.eq (.elem (.field (sTm 14) "java/lang/String" "value" "[B") (.int (Int32.ofNat (j + 70)))) (.int ((sBytL.getD 14 []).getD (j + 70) 0)) ∈ GF := by decide +kernel
theorem s_el_14 : ∀ j, j < sLenL.getD 14 0 → Cond.eq (.elem (.field (sTm 14) "java/lang/String" "value" "[B") (.int (Int32.ofNat (j)))) (.int ((sBytL.getD 14 []).getD (j) 0)) ∈ GF := fun j hj => by
  have hj : j < 79 := hj
  by_cases h0 : j < 10
  · exact Nat.sub_add_cancel (show 0 ≤ j by omega) ▸ s_e14_0 (j - 0) (by omega)
  by_cases h10 : j < 20
  · exact Nat.sub_add_cancel (show 10 ≤ j by omega) ▸ s_e14_10 (j - 10) (by omega)
  by_cases h20 : j < 30
  · exact Nat.sub_add_cancel (show 20 ≤ j by omega) ▸ s_e14_20 (j - 20) (by omega)
  by_cases h30 : j < 40
  · exact Nat.sub_add_cancel (show 30 ≤ j by omega) ▸ s_e14_30 (j - 30) (by omega)
  by_cases h40 : j < 50
  · exact Nat.sub_add_cancel (show 40 ≤ j by omega) ▸ s_e14_40 (j - 40) (by omega)
  by_cases h50 : j < 60
  · exact Nat.sub_add_cancel (show 50 ≤ j by omega) ▸ s_e14_50 (j - 50) (by omega)
  by_cases h60 : j < 70
  · exact Nat.sub_add_cancel (show 60 ≤ j by omega) ▸ s_e14_60 (j - 60) (by omega)
  exact Nat.sub_add_cancel (show 70 ≤ j by omega) ▸ s_e14_70 (j - 70) (by omega)
theorem s_el : ∀ i, i < 15 → ∀ j, j < sLenL.getD i 0 → Cond.eq (.elem (.field (sTm i) "java/lang/String" "value" "[B") (.int (Int32.ofNat j))) (.int ((sBytL.getD i []).getD j 0)) ∈ GF := fun i hi => match i, hi with
  | 0, _ => s_el_0
  | 1, _ => s_el_1
  | 2, _ => s_el_2
  | 3, _ => s_el_3
  | 4, _ => s_el_4
  | 5, _ => s_el_5
  | 6, _ => s_el_6
  | 7, _ => s_el_7
  | 8, _ => s_el_8
  | 9, _ => s_el_9
  | 10, _ => s_el_10
  | 11, _ => s_el_11
  | 12, _ => s_el_12
  | 13, _ => s_el_13
  | 14, _ => s_el_14
  | i + 15, h => absurd h (by omega)
theorem x_tx : ∀ q ∈ xTexts, Cond.exactly (.string RX8 q.1) "java/lang/String" ∈ GF := by decide +kernel
theorem x_tr : ∀ q ∈ xTexts, Cond.stringRef RX8 q.1 q.2 ∈ lw_tbl := by decide +kernel
section EXS
variable {args : Array Value} {s : State} {A : Nat → Prop}
theorem ex_ref {t : Term} {C : String} (h : (Cond.exactly t C).before args s = true) : ∃ a : Nat, t.eval args s none [] s = some (.ref a) := by
  obtain ⟨a, c, cA, kA, q1, -⟩ := Cond.exactly_spec (args := args) (first := s) (o := none) (s := s) (idx := []) (t := t) (cls := C) h
  exact ⟨a, q1⟩
theorem ex_esf (hts : ∀ w ∈ lw_tbl, w.before args s = true) (hgv : (Jvm.Cond.and given_1 narrow_1).before args s = true) (hA : ∀ a : Nat, a < s.heap.size → ¬ A a) : ∃ ad : Nat → Nat, ESF ad A s s.heap := by
  have hs : ∀ w ∈ GF, w.before args s = true := flat_of_before _ hgv
  have h1 : ∀ i : Nat, ∃ a : Nat, i < 14 → (wTm i).eval args s none [] s = some (.ref a) := fun i => by
    by_cases hi : i < 14
    · obtain ⟨a, ha⟩ := ex_ref (hs _ (g_ex i hi))
      exact ⟨a, fun _ => ha⟩
    · exact ⟨0, fun h => absurd h hi⟩
  obtain ⟨a0, h1⟩ := Classical.axiomOfChoice h1
  have h2 : ∀ i : Nat, ∃ q : Nat × Nat, i < 15 → (sTm i).eval args s none [] s = some (.ref q.1) ∧ va_O "java/lang/String" q.1 A s s.heap ∧ va_OF "java/lang/String" "coder" "B" (.int 0) q.1 A s s.heap ∧ va_OF "java/lang/String" "value" "[B" (.ref q.2) q.1 A s s.heap ∧ va_T .byte q.2 (sLenL.getD i 0) (fun j => .int ((sBytL.getD i []).getD j 0)) A s s.heap := fun i => by
    by_cases hi : i < 15
    · obtain ⟨a, ha⟩ := ex_ref (hs _ (s_ex i hi))
      obtain ⟨t, ht, hT⟩ := va_Tof (f := fun j => .int ((sBytL.getD i []).getD j 0)) (A := A) (s_lt i hi) (hs _ (s_ar i hi)) (va_eqt (hs _ (s_le i hi))) (fun j hj => va_eqt (hs _ (s_el i hi j hj))) hA
      exact ⟨(a, t), fun _ => ⟨ha, va_Oof (hs _ (s_ex i hi)) ha hA, vk_OFof ha (va_eqt (hs _ (s_co i hi))) hA, vk_OFof ha ht hA, hT⟩⟩
    · exact ⟨(0, 0), fun h => absurd h hi⟩
  obtain ⟨q, h2⟩ := Classical.axiomOfChoice h2
  obtain ⟨ad, e0, e1, e2⟩ : ∃ ad : Nat → Nat, (∀ i, i < 14 → ad i = a0 i) ∧ (∀ i, i < 15 → ad (20 + i) = (q i).1) ∧ (∀ i, i < 15 → ad (40 + i) = (q i).2) := by
    refine ⟨fun i => if i < 20 then a0 i else if i < 40 then (q (i - 20)).1 else (q (i - 40)).2, fun i hi => ?_, fun i hi => ?_, fun i hi => ?_⟩
    · exact if_pos (by omega)
    · show (if 20 + i < 20 then _ else _) = _
      rw [if_neg (by omega), if_pos (by omega), Nat.add_sub_cancel_left]
    · show (if 40 + i < 20 then _ else _) = _
      rw [if_neg (by omega), if_neg (by omega), Nat.add_sub_cancel_left]
  have H1 : ∀ i, i < 14 → (wTm i).eval args s none [] s = some (.ref (ad i)) := fun i hi => by rw [e0 i hi]; exact h1 i hi
  have H2 : ∀ i, i < 15 → (sTm i).eval args s none [] s = some (.ref (ad (20 + i))) ∧ va_O "java/lang/String" (ad (20 + i)) A s s.heap ∧ va_OF "java/lang/String" "coder" "B" (.int 0) (ad (20 + i)) A s s.heap ∧ va_OF "java/lang/String" "value" "[B" (.ref (ad (40 + i))) (ad (20 + i)) A s s.heap ∧ va_T .byte (ad (40 + i)) (sLenL.getD i 0) (fun j => .int ((sBytL.getD i []).getD j 0)) A s s.heap := fun i hi => by rw [e1 i hi, e2 i hi]; exact h2 i hi
  have h7 : (Cond.initialized RX7).before args s = true := hts _ (by decide +kernel)
  obtain ⟨t, ht, hT⟩ := va_Tof (tm := .static RX7 "ALL" "[LMemoryCourt$Word;") (ty := .object RX7) (N := 14) (f := fun i => .ref (ad i)) (A := A) (by decide) (hs _ (by decide +kernel)) (va_eqt (hs (.eq (.length (.static RX7 "ALL" "[LMemoryCourt$Word;")) (.int (Int32.ofNat 14))) (by decide +kernel))) (fun j hj => va_eqv (hs _ (g_all j hj)) (H1 j hj)) hA
  obtain ⟨t2, ht2, hT2⟩ := va_Tof (tm := .static RX0 "$SwitchMap$MemoryCourt$Word" "[I") (ty := .int) (N := 14) (f := fun i => .int (wMapL.getD i 0)) (A := A) (by decide) (hs _ (by decide +kernel)) (va_eqt (hs (.eq (.length (.static RX0 "$SwitchMap$MemoryCourt$Word" "[I")) (.int (Int32.ofNat 14))) (by decide +kernel))) (fun j hj => va_eqt (hs _ (g_map j hj))) hA
  refine ⟨ad, fun i hi => ⟨va_Zof (hts _ (g_lay i hi)) h7 (H1 i hi) hA, va_Oof (hs _ (g_ex i hi)) (H1 i hi) hA⟩, ?_, ?_, ?_, ?_, ?_, ?_, ⟨t, va_Zof (hts _ (by decide +kernel)) h7 ht hA, hT⟩, ⟨t2, va_Zof (hts _ (by decide +kernel)) (hts _ (by decide +kernel)) ht2 hA, hT2⟩, fun i j hi hj e => ?_, fun i hi => (H2 i hi).2, ?_, ?_, ?_⟩
  · exact va_Efof (E := RX7) (d0 := "LMemoryCourt$Word;") (nm := wNameL) (tm := fun i => .int (wBitL.getD i 0)) H1 (fun i hi => hs _ (g_bit i hi)) (fun i _ => rfl) hA
  · exact va_Efof (E := RX7) (d0 := "LMemoryCourt$Word;") (nm := wNameL) (tm := fun i => .int (wLowL.getD i 0)) H1 (fun i hi => hs _ (g_low i hi)) (fun i _ => rfl) hA
  · exact va_Efof (E := RX7) (d0 := "LMemoryCourt$Word;") (nm := wNameL) (tm := fun i => .int (wHighL.getD i 0)) H1 (fun i hi => hs _ (g_high i hi)) (fun i _ => rfl) hA
  · exact va_Efof (E := RX7) (d0 := "LMemoryCourt$Word;") (nm := wNameL) (tm := fun i => .int (wUsualL.getD i 0)) H1 (fun i hi => hs _ (g_usual i hi)) (fun i _ => rfl) hA
  · exact va_Efof (E := RX7) (d0 := "LMemoryCourt$Word;") (nm := wNameL) (tm := fun i => .int (nI i)) H1 (fun i hi => hs _ (g_ord i hi)) (fun i _ => rfl) hA
  · exact va_Efof (E := RX7) (d0 := "LMemoryCourt$Word;") (nm := wNameL) (tm := sTm) H1 (fun i hi => hs _ (g_text i hi)) (fun i hi => (H2 i (by omega)).1) hA
  · by_cases hij : i = j
    · exact hij
    · rcases g_ne i hi j hj hij with h | h
      · exact absurd e (va_neR (hs _ h) (H1 i hi) (H1 j hj))
      · exact absurd e.symm (va_neR (hs _ h) (H1 j hj) (H1 i hi))
  · exact vk_R.of (hts _ (by decide +kernel)) (H2 14 (by decide)).1
  · exact va_Zof (hts _ (by decide +kernel)) (hts _ (by decide +kernel)) (va_eqt (hs _ (by decide +kernel))) hA
  · exact va_Zqof (hts _ (by decide +kernel)) (hts _ (by decide +kernel)) (hs _ (by decide +kernel)) hA
theorem ex_xsf (hts : ∀ w ∈ lw_tbl, w.before args s = true) (hgv : (Jvm.Cond.and given_1 narrow_1).before args s = true) (hA : ∀ a : Nat, a < s.heap.size → ¬ A a) : XSF A s s.heap := by
  have hs : ∀ w ∈ GF, w.before args s = true := flat_of_before _ hgv
  refine ⟨vx_Zqof (hts _ (by decide +kernel)) (hts _ (by decide +kernel)) (hs _ (by decide +kernel)) hA, vx_Zqof (hts _ (by decide +kernel)) (hts _ (by decide +kernel)) (hs _ (by decide +kernel)) hA, fun q hq => ?_⟩
  obtain ⟨a, ha⟩ := ex_ref (hs _ (x_tx q hq))
  exact ⟨a, vk_R.of (hts _ (x_tr q hq)) ha⟩
end EXS
theorem ex_ccp {args : Array Value} {s : State} (hts : ∀ w ∈ lw_tbl, w.before args s = true) (hgv : (Jvm.Cond.and given_1 narrow_1).before args s = true) : CCP s := by
  have hm : ∀ i, i < 4 → ∀ j, j < 4 → i ≠ j → (Cond.not (.castable (xName (i + 1)) (xName (j + 1))) ∈ lw_tbl ∨ Cond.not (.castable (xName (i + 1)) (xName (j + 1))) ∈ GF) := by decide +kernel
  intro i j h1 h2 h3 h4 h5
  have h := hm (i - 1) (by omega) (j - 1) (by omega) (by omega)
  rw [Nat.sub_add_cancel h1, Nat.sub_add_cancel h3] at h
  rcases h with h | h
  · exact va_Nc.of (hts _ h)
  · exact va_Nc.of (flat_of_before _ hgv _ h)
