/-! tokens of a text -/
section P44_by8
variable {P NP D K T LC CC FC E Bs F Pt Ap n : Nat} {c ru M : OS} {m : Nat → Int32}
def by8 (b : Nat) : Int32 := (nI b).toInt8.toInt32
end P44_by8
section P50_kd
variable {n len : Nat} {inp rd M : OS} {B : Nat → Nat}
def kd (B : Nat → Nat) (len i : Nat) : Nat := if i < len then (if B i = 32 then 1 else if B i = 10 then 1 else if B i = 59 then 3 else if 97 ≤ B i ∧ B i ≤ 122 then 4 else if 48 ≤ B i ∧ B i ≤ 57 then 5 else 2) else 0
def skp (B : Nat → Nat) (len : Nat) : Nat → Nat → Nat
  | 0, e => e
  | d + 1, e => if kd B len e = 1 then skp B len d (e + 1) else e
def rne (B : Nat → Nat) (len k : Nat) : Nat → Nat → Nat
  | 0, e => e
  | d + 1, e => if kd B len e = k then rne B len k d (e + 1) else e
theorem kd_le (B : Nat → Nat) (len i : Nat) : kd B len i ≤ 5 := by
  unfold kd
  repeat (first | split | omega)
theorem kd_0 {B : Nat → Nat} {len i : Nat} : kd B len i = 0 ↔ len ≤ i := by
  unfold kd
  constructor
  · intro h
    by_cases q : i < len
    · rw [if_pos q] at h
      exfalso
      revert h
      repeat (first | split | (intro h; omega))
    · omega
  · intro h
    rw [if_neg (by omega)]
theorem skp_ge (B : Nat → Nat) (len : Nat) : ∀ d e, e ≤ skp B len d e ∧ skp B len d e ≤ e + d
  | 0, e => ⟨Nat.le_refl _, Nat.le_refl _⟩
  | d + 1, e => by
    unfold skp
    have := skp_ge B len d (e + 1)
    split <;> omega
theorem skp_not (B : Nat → Nat) (len : Nat) : ∀ d e, len ≤ e + d → kd B len (skp B len d e) ≠ 1
  | 0, e, h => by
    have : kd B len e = 0 := kd_0.mpr (by omega)
    show kd B len e ≠ 1
    omega
  | d + 1, e, h => by
    unfold skp
    by_cases q : kd B len e = 1
    · rw [if_pos q]
      exact skp_not B len d (e + 1) (by omega)
    · rw [if_neg q]
      exact q
theorem skp_fix {B : Nat → Nat} {len : Nat} : ∀ d e, kd B len e ≠ 1 → skp B len d e = e
  | 0, _, _ => rfl
  | d + 1, e, h => by
    unfold skp
    rw [if_neg h]
theorem rne_ge (B : Nat → Nat) (len k : Nat) : ∀ d e, e ≤ rne B len k d e ∧ rne B len k d e ≤ e + d
  | 0, e => ⟨Nat.le_refl _, Nat.le_refl _⟩
  | d + 1, e => by
    unfold rne
    have := rne_ge B len k d (e + 1)
    split <;> omega
def tS (B : Nat → Nat) (len e : Nat) : Nat := skp B len (len - e) e
def tE (B : Nat → Nat) (len e : Nat) : Nat :=
  if kd B len (tS B len e) = 0 then tS B len e
  else if kd B len (tS B len e) = 4 ∨ kd B len (tS B len e) = 5 then rne B len (kd B len (tS B len e)) (len - (tS B len e + 1)) (tS B len e + 1)
  else tS B len e + 1
theorem tS_le {B : Nat → Nat} {len e : Nat} (h : e ≤ len) : e ≤ tS B len e ∧ tS B len e ≤ len := by
  have := skp_ge B len (len - e) e
  unfold tS
  omega
theorem tS_nb {B : Nat → Nat} {len e : Nat} (h : e ≤ len) : kd B len (tS B len e) ≠ 1 := skp_not B len _ _ (by omega)
def wch (i k : Nat) : Nat := ((sBytL.getD i []).getD k 0).toNatClampNeg
def wln (i : Nat) : Nat := sLenL.getD i 0
def mtc (B : Nat → Nat) (s i : Nat) : Nat → Bool
  | 0 => true
  | k + 1 => mtc B s i k && decide (wch i k = B (s + k))
def mtw (B : Nat → Nat) (s e i : Nat) : Bool := decide (wln i = e - s) && mtc B s i (wln i)
def fwd (B : Nat → Nat) (s e : Nat) : Nat → Nat → Nat
  | 0, i => i
  | d + 1, i => if mtw B s e i then i else fwd B s e d (i + 1)
def wdx (B : Nat → Nat) (s e : Nat) : Nat := fwd B s e 13 1 % 14
theorem wch_ok : ∀ i, i < 14 → ∀ k, k < wln i → sChr (nI i) (nI k) = nI (wch i k) ∧ 97 ≤ wch i k ∧ wch i k ≤ 122 := by decide +kernel
theorem wln_ok : ∀ i, i < 14 → sLen (nI i) = nI (wln i) ∧ wln i ≤ 8 ∧ sLenL.getD i 0 = wln i := by decide +kernel
theorem by8_ok : ∀ b, b < 256 → by8 b &&& 255 = nI b ∧ (b < 128 → by8 b = nI b) ∧ ((by8 b).toInt < 97 ∨ 122 < (by8 b).toInt ∨ (97 ≤ b ∧ b ≤ 122)) := by decide +kernel
def Tx (B : Nat → Nat) (len : Nat) (inp M : OS) : Prop := len ≤ 600 ∧ inp.1 1 = nI len ∧ M.1 24 = nI len ∧ ∀ i, i < len → B i < 256 ∧ inp.2.1 0 i = by8 (B i) ∧ M.2.1 22 i = by8 (B i)
theorem c_at (h : Tx B len inp M) {i : Nat} (hi : i < 2 ^ 31) : f_X1_at n 600 inp (nI i) = some (if i < len then nI (B i) else -1) := by
  obtain ⟨h1, h2, h3, h4⟩ := h
  unfold f_X1_at
  rw [if_neg (nI_pos hi), h2]
  by_cases q : i < len
  · rw [if_neg (nI_ge q (by omega)), if_neg (show ¬ Int32.ofNat 600 ≤ nI i from nI_ge (a := i) (b := 600) (by omega) (by decide)), egN (by omega) (by decide), eLet, nI_clamp hi, (h4 i q).2.1, (by8_ok _ (h4 i q).1).1, if_pos q]
  · rw [if_pos (nI_le (by omega) hi), if_neg q]
theorem c_kindAt (h : Tx B len inp M) {i : Nat} (hi : i < 2 ^ 31) : f_X4_kindAt n rd 600 inp (nI i) = some (nI (kd B len i)) := by
  unfold f_X4_kindAt j_X4_kindAt_52 kd
  rw [c_at h hi, ebnd]
  by_cases q : i < len
  · have hb := (h.2.2.2 i q).1
    rw [if_pos q, if_pos q, if_neg (nI_m1 _ (by omega))]
    by_cases q1 : B i = 32
    · rw [q1, if_pos rfl, if_pos (show nI 32 = (32 : Int32) from rfl)]
      rfl
    · rw [if_neg q1, if_neg (show ¬ nI (B i) = (32 : Int32) from fun z => q1 (nI_inj (b := 32) (by omega) (by decide) z))]
      by_cases q2 : B i = 10
      · rw [q2, if_pos rfl, if_pos (show nI 10 = (10 : Int32) from rfl)]
        rfl
      · rw [if_neg q2, if_neg (show ¬ nI (B i) = (10 : Int32) from fun z => q2 (nI_inj (b := 10) (by omega) (by decide) z))]
        by_cases q3 : B i = 59
        · rw [q3, if_pos rfl, if_pos (show nI 59 = (59 : Int32) from rfl)]
          rfl
        · rw [if_neg q3, if_neg (show ¬ nI (B i) = (59 : Int32) from fun z => q3 (nI_inj (b := 59) (by omega) (by decide) z))]
          have dg : (if nI (B i) < (48 : Int32) then some (2 : Int32) else (if (57 : Int32) < nI (B i) then some (2 : Int32) else some (5 : Int32))) = some (nI (if 48 ≤ B i ∧ B i ≤ 57 then 5 else 2)) := by
            by_cases q6 : B i < 48
            · rw [if_pos (show nI (B i) < (48 : Int32) from nI_lt (b := 48) q6 (by decide)), if_neg (by omega)]
              rfl
            · rw [if_neg (show ¬ nI (B i) < (48 : Int32) from nI_nlt (b := 48) (by omega) (by omega))]
              by_cases q7 : 57 < B i
              · rw [if_pos (show (57 : Int32) < nI (B i) from nI_lt (a := 57) q7 (by omega)), if_neg (by omega)]
                rfl
              · rw [if_neg (show ¬ (57 : Int32) < nI (B i) from nI_nlt (a := 57) (by omega) (by decide)), if_pos (by omega)]
                rfl
          by_cases q4 : B i < 97
          · rw [if_pos (show nI (B i) < (97 : Int32) from nI_lt (b := 97) q4 (by decide)), if_neg (show ¬ (97 ≤ B i ∧ B i ≤ 122) by omega)]
            exact dg
          · rw [if_neg (show ¬ nI (B i) < (97 : Int32) from nI_nlt (b := 97) (by omega) (by omega))]
            by_cases q5 : 122 < B i
            · rw [if_pos (show (122 : Int32) < nI (B i) from nI_lt (a := 122) q5 (by omega)), if_neg (show ¬ (97 ≤ B i ∧ B i ≤ 122) by omega)]
              exact dg
            · rw [if_neg (show ¬ (122 : Int32) < nI (B i) from nI_nlt (a := 122) (by omega) (by decide)), if_pos (show 97 ≤ B i ∧ B i ≤ 122 by omega)]
              rfl
  · rw [if_neg q, if_neg q]
    rfl
end P50_kd
section P62_sI_same
variable {n len : Nat} {inp rd M : OS} {B : Nat → Nat}
theorem sI_same {c : OS} {j : Nat} {v : Int32} (h : c.1 j = v) : sI c j v = c := by
  unfold sI
  refine Prod.ext ?_ rfl
  funext i
  show (if i = j then v else c.1 i) = c.1 i
  split
  · next e => rw [e, h]
  · rfl
theorem sI_sI (c : OS) (j : Nat) (v w : Int32) : sI (sI c j v) j w = sI c j w := by
  unfold sI
  refine Prod.ext ?_ rfl
  funext i
  show (if i = j then w else if i = j then v else c.1 i) = if i = j then w else c.1 i
  by_cases h : i = j
  · rw [if_pos h, if_pos h]
  · rw [if_neg h, if_neg h, if_neg h]
theorem mtc_down {B : Nat → Nat} {s i : Nat} : ∀ {d k : Nat}, mtc B s i k = false → mtc B s i (k + d) = false
  | 0, _, h => h
  | d + 1, k, h => by
    show (mtc B s i (k + d) && decide (wch i (k + d) = B (s + (k + d)))) = false
    rw [mtc_down h]
    rfl
theorem fwd_succ (B : Nat → Nat) (s e d i : Nat) : fwd B s e (d + 1) i = if mtw B s e i then i else fwd B s e d (i + 1) := rfl
theorem fwd_le (B : Nat → Nat) (s e : Nat) : ∀ d i, i ≤ fwd B s e d i ∧ fwd B s e d i ≤ i + d
  | 0, i => ⟨Nat.le_refl _, Nat.le_refl _⟩
  | d + 1, i => by
    rw [fwd_succ]
    have := fwd_le B s e d (i + 1)
    split <;> omega
theorem wdx_lt (B : Nat → Nat) (s e : Nat) : wdx B s e < 14 := Nat.mod_lt _ (by decide)
theorem slen14 : sLen (14 : Int32) = nI 79 ∧ sLenL.getD (14 : Int32).toNatClampNeg 0 = 79 ∧ wln 0 = 0 := by decide +kernel
theorem c_word52 (hT : Tx B len inp M) {s e i : Nat} {rc : Int32 → Option Int32} (hi : i < 14) (hl : wln i = e - s) (hse : s ≤ e) (hel : e ≤ len) : ∀ (dd j N : Nat), j + dd = wln i → dd < N → l_X7_standing_52 n 600 inp (nI s) (nI e) 14 (nI i) (nI i) (nI (wln i)) rc N (bI (mtc B s i j)) (nI j) = if mtc B s i (wln i) then some (nI i) else rc (nI (i + 1))
  | 0, j, N, hj, hN => by
    obtain ⟨N', rfl⟩ : ∃ N', N = N' + 1 := ⟨N - 1, by omega⟩
    have : j = wln i := by omega
    subst this
    have w8 := (wln_ok i hi).2.1
    show s_X7_standing_52 n 600 inp (nI s) (nI e) 14 (nI i) (nI i) (nI (wln i)) rc _ (bI (mtc B s i (wln i))) (nI (wln i)) = _
    unfold s_X7_standing_52
    rw [if_pos (Int32.le_refl _), ifz, eLet, nI_1]
  | dd + 1, j, N, hj, hN => by
    obtain ⟨N', rfl⟩ : ∃ N', N = N' + 1 := ⟨N - 1, by omega⟩
    obtain ⟨_, w8, w3⟩ := wln_ok i hi
    have h600 := hT.1
    have hB := (hT.2.2.2 (s + j) (by omega)).1
    obtain ⟨k1, k2, k3⟩ := wch_ok i hi j (by omega)
    show s_X7_standing_52 n 600 inp (nI s) (nI e) 14 (nI i) (nI i) (nI (wln i)) rc (l_X7_standing_52 n 600 inp (nI s) (nI e) 14 (nI i) (nI i) (nI (wln i)) rc N') (bI (mtc B s i j)) (nI j) = _
    unfold s_X7_standing_52
    rw [if_neg (nI_ge (show j < wln i by omega) (by omega)), ifz, ifz]
    cases hm : mtc B s i j with
    | false =>
      have := mtc_down (d := wln i - j) hm
      rw [show j + (wln i - j) = wln i by omega] at this
      rw [this, if_neg (by decide), if_neg (by decide), if_neg (by decide), eLet, nI_1]
    | true =>
      have ih1 := c_word52 (rc := rc) hT hi hl hse hel dd (j + 1) N' (by omega) (by omega)
      have hs : mtc B s i (j + 1) = decide (wch i j = B (s + j)) := by
        show (mtc B s i j && decide (wch i j = B (s + j))) = _
        rw [hm, Bool.true_and]
      rw [if_pos rfl, egN (show i < 14 from hi) (by decide), egN (show i < 14 by omega) (by decide), nI_clamp (by omega), w3, egN (show j < wln i by omega) (by omega), eLet, k1, nI_add, c_at hT (by omega), ebnd, if_pos (show s + j < len by omega), eLet, eLet, nI_1]
      by_cases q : wch i j = B (s + j)
      · rw [if_pos (by rw [q])]
        rw [hs, decide_eq_true q] at ih1
        exact ih1
      · rw [if_neg (fun z => q (nI_inj (by omega) (by omega) z))]
        rw [hs, decide_eq_false q] at ih1
        exact ih1
theorem c_standing (hT : Tx B len inp M) {s e : Nat} (hse : s < e) (hel : e ≤ len) (hn : 100 < n) : f_X7_standing n 600 inp (nI s) (nI e) = some (nI (wdx B s e)) := by
  have h600 := hT.1
  have step : ∀ i N, i < 14 → l_X7_standing_11 n 600 inp (nI s) (nI e) 14 (N + 1) (nI i) = if mtw B s e i then some (nI i) else l_X7_standing_11 n 600 inp (nI s) (nI e) 14 N (nI (i + 1)) := fun i N hi => by
    obtain ⟨w1, w8, w3⟩ := wln_ok i hi
    show s_X7_standing_11 n 600 inp (nI s) (nI e) 14 (l_X7_standing_11 n 600 inp (nI s) (nI e) 14 N) (nI i) = _
    unfold s_X7_standing_11 j_X7_standing_47 mtw
    rw [if_neg (show ¬ (14 : Int32) ≤ nI i from nI_ge (a := i) (b := 14) hi (by decide)), egN (show i < 14 from hi) (by decide), egN (show i < 14 from hi) (by decide), egN (show i < 14 by omega) (by decide), eLet, w1, pk_sub (show s ≤ e by omega)]
    by_cases hl : wln i = e - s
    · rw [if_pos (by rw [hl]), decide_eq_true hl, Bool.true_and]
      exact c_word52 hT hi hl (by omega) hel (wln i) 0 n (by omega) (by omega)
    · rw [if_neg (fun z => hl (nI_inj (by omega) (by omega) z)), decide_eq_false hl, Bool.false_and, if_neg (by decide)]
      obtain ⟨n', rfl⟩ : ∃ n', n = n' + 1 := ⟨n - 1, by omega⟩
      show s_X7_standing_52 (n' + 1) 600 inp (nI s) (nI e) 14 (nI i) (nI i) (nI (wln i)) _ _ 0 0 = _
      unfold s_X7_standing_52
      rw [if_pos (show (0 : Int32) = 0 from rfl), if_pos (show (0 : Int32) = 0 from rfl), eLet, nI_1, ite_self]
  have go : ∀ d i N, i + d = 14 → d < N → l_X7_standing_11 n 600 inp (nI s) (nI e) 14 N (nI i) = some (nI (fwd B s e d i % 14)) := by
    intro d
    induction d with
    | zero =>
      intro i N h1 h2
      obtain ⟨N', rfl⟩ : ∃ N', N = N' + 1 := ⟨N - 1, by omega⟩
      have : i = 14 := by omega
      subst this
      show s_X7_standing_11 n 600 inp (nI s) (nI e) 14 _ (nI 14) = _
      unfold s_X7_standing_11
      rw [if_pos (show (14 : Int32) ≤ nI 14 from Int32.le_refl (14 : Int32)), show fwd B s e 0 14 = 14 from rfl]
      decide
    | succ d ih =>
      intro i N h1 h2
      obtain ⟨N', rfl⟩ : ∃ N', N = N' + 1 := ⟨N - 1, by omega⟩
      rw [step i N' (by omega), fwd_succ, ih (i + 1) N' (by omega) (by omega)]
      cases mtw B s e i
      · rfl
      · rw [if_pos rfl, if_pos rfl, Nat.mod_eq_of_lt (by omega)]
  have h0 : mtw B s e 0 = false := by
    unfold mtw
    rw [slen14.2.2, decide_eq_false (show ¬ 0 = e - s by omega)]
    rfl
  obtain ⟨n', rfl⟩ : ∃ n', n = n' + 1 := ⟨n - 1, by omega⟩
  unfold f_X7_standing wdx
  rw [show (0 : Int32) = nI 0 from rfl, step 0 n' (by omega), h0, if_neg (by decide)]
  exact go 13 1 n' (by omega) (by omega)
end P62_sI_same
section P63_vl
variable {n len : Nat} {inp rd M : OS} {B : Nat → Nat}
def vl (B : Nat → Nat) (s : Nat) : Nat → Nat
  | 0 => 0
  | j + 1 => 10 * vl B s j + (B (s + j) - 48)
def TC (B : Nat → Nat) (len s e : Nat) (rd : OS) : Prop := rd.1 6 = nI s ∧ rd.1 7 = nI e ∧ rd.1 5 = nI (kd B len s) ∧ rd.1 8 = nI (if kd B len s = 4 then wdx B s e else 0)
theorem c_skip (hT : Tx B len inp M) : ∀ (d i N : Nat) (th : OS), i + d = len → d < N → th.1 6 = nI i → l_X4_advance_13 n 600 inp N th (nI i) = j_X4_advance_46 n 600 inp (sI th 6 (nI (skp B len d i)))
  | 0, i, N, th, hi, hN, h6 => by
    obtain ⟨N', rfl⟩ : ∃ N', N = N' + 1 := ⟨N - 1, by omega⟩
    have h600 := hT.1
    show s_X4_advance_13 n 600 inp _ th (nI i) = j_X4_advance_46 n 600 inp (sI th 6 (nI i))
    unfold s_X4_advance_13
    rw [hT.2.1, if_pos (nI_le (by omega) (by omega)), sI_same h6]
  | d + 1, i, N, th, hi, hN, h6 => by
    obtain ⟨N', rfl⟩ : ∃ N', N = N' + 1 := ⟨N - 1, by omega⟩
    have h600 := hT.1
    have k5 := kd_le B len i
    show s_X4_advance_13 n 600 inp (l_X4_advance_13 n 600 inp N') th (nI i) = j_X4_advance_46 n 600 inp (sI th 6 (nI (if kd B len i = 1 then skp B len d (i + 1) else i)))
    unfold s_X4_advance_13
    rw [hT.2.1, if_neg (nI_ge (show i < len by omega) (by omega)), c_kindAt hT (by omega), ebnd]
    by_cases q : kd B len i = 1
    · rw [q, if_pos (show nI 1 = (1 : Int32) from rfl), if_pos rfl, eLet, eLet, nI_1, c_skip hT d (i + 1) N' (sI th 6 (nI (i + 1))) (by omega) (by omega) sI_s, sI_sI]
    · rw [if_neg (show ¬ nI (kd B len i) = (1 : Int32) from fun z => q (nI_inj (b := 1) (by omega) (by decide) z)), if_neg q, sI_same h6]
theorem c_runs (hT : Tx B len inp M) {k : Nat} (hk : k ≤ 5) : ∀ (d i N : Nat) (th : OS), i + d = len → d < N → th.1 7 = nI i → th.1 5 = nI k → l_X4_advance_103 n 600 inp N th (nI i) = j_X4_advance_139 n 600 inp (sI th 7 (nI (rne B len k d i)))
  | 0, i, N, th, hi, hN, h7, h5 => by
    obtain ⟨N', rfl⟩ : ∃ N', N = N' + 1 := ⟨N - 1, by omega⟩
    have h600 := hT.1
    show s_X4_advance_103 n 600 inp _ th (nI i) = j_X4_advance_139 n 600 inp (sI th 7 (nI i))
    unfold s_X4_advance_103
    rw [hT.2.1, if_pos (nI_le (by omega) (by omega)), sI_same h7]
  | d + 1, i, N, th, hi, hN, h7, h5 => by
    obtain ⟨N', rfl⟩ : ∃ N', N = N' + 1 := ⟨N - 1, by omega⟩
    have h600 := hT.1
    have k5 := kd_le B len i
    show s_X4_advance_103 n 600 inp (l_X4_advance_103 n 600 inp N') th (nI i) = j_X4_advance_139 n 600 inp (sI th 7 (nI (if kd B len i = k then rne B len k d (i + 1) else i)))
    unfold s_X4_advance_103
    rw [hT.2.1, if_neg (nI_ge (show i < len by omega) (by omega)), c_kindAt hT (by omega), ebnd, h5]
    by_cases q : kd B len i = k
    · rw [q, if_pos rfl, if_pos rfl, eLet, eLet, nI_1, c_runs hT hk d (i + 1) N' (sI th 7 (nI (i + 1))) (by omega) (by omega) sI_s (by rw [sI_o (by decide), h5]), sI_sI]
    · rw [if_neg (fun z => q (nI_inj (by omega) (by omega) z)), if_neg q, sI_same h7]
theorem tE_run {e0 : Nat} (h : kd B len (tS B len e0) = 4 ∨ kd B len (tS B len e0) = 5) : tE B len e0 = rne B len (kd B len (tS B len e0)) (len - (tS B len e0 + 1)) (tS B len e0 + 1) := by
  unfold tE
  rw [if_neg (by omega), if_pos h]
theorem tE_one {e0 : Nat} (h : kd B len (tS B len e0) ≠ 0) (h4 : kd B len (tS B len e0) ≠ 4) (h5 : kd B len (tS B len e0) ≠ 5) : tE B len e0 = tS B len e0 + 1 := by
  unfold tE
  rw [if_neg h, if_neg (by omega)]
theorem tE_end {e0 : Nat} (h : kd B len (tS B len e0) = 0) : tE B len e0 = tS B len e0 := by
  unfold tE
  rw [if_pos h]
theorem tkn_lt {s : Nat} (h : kd B len s ≠ 0) : s < len := by
  rcases Nat.lt_or_ge s len with z | z
  · exact z
  · exact absurd (kd_0.mpr z) h
theorem c_advance (hT : Tx B len inp M) (hn : 700 < n) {e0 : Nat} (he : e0 ≤ len) (h7 : rd.1 7 = nI e0) : ∃ rd', f_X4_advance n rd 600 inp = some rd' ∧ TC B len (tS B len e0) (tE B len e0) rd' ∧ (∀ j, j < 5 ∨ 8 < j → rd'.1 j = rd.1 j) ∧ rd'.2 = rd.2 := by
  have h600 := hT.1
  obtain ⟨s1, s2⟩ := tS_le (B := B) he
  have hnb := tS_nb (B := B) he
  have k5 := kd_le B len (tS B len e0)
  have hsk : f_X4_advance n rd 600 inp = j_X4_advance_46 n 600 inp (sI (sI rd 6 (nI e0)) 6 (nI (tS B len e0))) := by
    unfold f_X4_advance
    rw [h7, eLet, sI_o (show (7 : Nat) ≠ 6 by decide), h7, eLet]
    exact c_skip hT (len - e0) e0 n _ (by omega) (by omega) sI_s
  rw [sI_sI] at hsk
  generalize hs : tS B len e0 = s at *
  have h46 : j_X4_advance_46 n 600 inp (sI rd 6 (nI s)) = j_X4_advance_79 n 600 inp (sI (sI rd 6 (nI s)) 5 (nI (kd B len s))) (if kd B len s = 0 then nI s else nI (s + 1)) := by
    unfold j_X4_advance_46
    rw [sI_s, c_kindAt hT (by omega), ebnd, eLet, sI_s, sI_o (show (6 : Nat) ≠ 5 by decide), sI_s, nI_1]
    by_cases q : kd B len s = 0
    · rw [q, if_pos (show nI 0 = (0 : Int32) from rfl), if_pos rfl]
    · rw [if_neg (nI_ne0 (by omega) (by omega)), if_neg q]
  have fr : ∀ (v a : Int32), (∀ j, j < 5 ∨ 8 < j → (sI (sI (sI (sI rd 6 (nI s)) 5 (nI (kd B len s))) 7 v) 8 a).1 j = rd.1 j) ∧ (sI (sI (sI (sI rd 6 (nI s)) 5 (nI (kd B len s))) 7 v) 8 a).2 = rd.2 := fun v a => ⟨fun j hj => by rw [sI_o (by omega), sI_o (by omega), sI_o (by omega), sI_o (by omega)], rfl⟩
  rw [hsk, h46]
  by_cases k0 : kd B len s = 0
  · have hE : tE B len e0 = s := by rw [tE_end (by rw [hs]; exact k0), hs]
    rw [if_pos k0, hE]
    refine ⟨sI (sI (sI (sI rd 6 (nI s)) 5 (nI (kd B len s))) 7 (nI s)) 8 0, ?_, ⟨rfl, rfl, rfl, ?_⟩, fr _ _⟩
    · unfold j_X4_advance_79 j_X4_advance_139
      rw [eLet, show (sI (sI (sI rd 6 (nI s)) 5 (nI (kd B len s))) 7 (nI s)).1 5 = nI 0 from by rw [k0]; rfl, if_neg (show ¬ nI 0 = (4 : Int32) from by decide), if_neg (show ¬ nI 0 = (5 : Int32) from by decide), if_neg (show ¬ nI 0 = (4 : Int32) from by decide), eLet]
    · rw [if_neg (show ¬ kd B len s = 4 by omega)]
      rfl
  · have hsl := tkn_lt k0
    rw [if_neg k0]
    by_cases k45 : kd B len s = 4 ∨ kd B len s = 5
    · have hE : tE B len e0 = rne B len (kd B len s) (len - (s + 1)) (s + 1) := by rw [tE_run (by rw [hs]; exact k45), hs]
      have hg := rne_ge B len (kd B len s) (len - (s + 1)) (s + 1)
      have hrun : j_X4_advance_98 n 600 inp (sI (sI (sI rd 6 (nI s)) 5 (nI (kd B len s))) 7 (nI (s + 1))) = j_X4_advance_139 n 600 inp (sI (sI (sI rd 6 (nI s)) 5 (nI (kd B len s))) 7 (nI (tE B len e0))) := by
        unfold j_X4_advance_98
        rw [sI_s, eLet, c_runs hT k5 (len - (s + 1)) (s + 1) n _ (by omega) (by omega) sI_s rfl, sI_sI, hE]
      rw [← hE] at hg
      rcases k45 with k4 | k4
      · refine ⟨sI (sI (sI (sI rd 6 (nI s)) 5 (nI (kd B len s))) 7 (nI (tE B len e0))) 8 (nI (wdx B s (tE B len e0))), ?_, ⟨rfl, rfl, rfl, ?_⟩, fr _ _⟩
        · unfold j_X4_advance_79
          rw [eLet, show (sI (sI (sI rd 6 (nI s)) 5 (nI (kd B len s))) 7 (nI (s + 1))).1 5 = nI 4 from by rw [k4]; rfl, if_pos (show nI 4 = (4 : Int32) from rfl), hrun]
          unfold j_X4_advance_139
          rw [show (sI (sI (sI rd 6 (nI s)) 5 (nI (kd B len s))) 7 (nI (tE B len e0))).1 5 = nI 4 from by rw [k4]; rfl, if_pos (show nI 4 = (4 : Int32) from rfl), show (sI (sI (sI rd 6 (nI s)) 5 (nI (kd B len s))) 7 (nI (tE B len e0))).1 6 = nI s from rfl, sI_s, c_standing hT (by omega) (by omega) (by omega), ebnd, eLet]
        · rw [if_pos k4]
          rfl
      · refine ⟨sI (sI (sI (sI rd 6 (nI s)) 5 (nI (kd B len s))) 7 (nI (tE B len e0))) 8 0, ?_, ⟨rfl, rfl, rfl, ?_⟩, fr _ _⟩
        · unfold j_X4_advance_79
          rw [eLet, show (sI (sI (sI rd 6 (nI s)) 5 (nI (kd B len s))) 7 (nI (s + 1))).1 5 = nI 5 from by rw [k4]; rfl, if_neg (show ¬ nI 5 = (4 : Int32) from by decide), if_pos (show nI 5 = (5 : Int32) from rfl), hrun]
          unfold j_X4_advance_139
          rw [show (sI (sI (sI rd 6 (nI s)) 5 (nI (kd B len s))) 7 (nI (tE B len e0))).1 5 = nI 5 from by rw [k4]; rfl, if_neg (show ¬ nI 5 = (4 : Int32) from by decide), eLet]
        · rw [if_neg (show ¬ kd B len s = 4 by omega)]
          rfl
    · have hE : tE B len e0 = s + 1 := by rw [tE_one (by rw [hs]; exact k0) (by rw [hs]; omega) (by rw [hs]; omega), hs]
      rw [hE]
      refine ⟨sI (sI (sI (sI rd 6 (nI s)) 5 (nI (kd B len s))) 7 (nI (s + 1))) 8 0, ?_, ⟨rfl, rfl, rfl, ?_⟩, fr _ _⟩
      · have e5 : (sI (sI (sI rd 6 (nI s)) 5 (nI (kd B len s))) 7 (nI (s + 1))).1 5 = nI (kd B len s) := rfl
        have n4 : ¬ nI (kd B len s) = (4 : Int32) := fun z => k45 (Or.inl (nI_inj (b := 4) (by omega) (by decide) z))
        have n5 : ¬ nI (kd B len s) = (5 : Int32) := fun z => k45 (Or.inr (nI_inj (b := 5) (by omega) (by decide) z))
        unfold j_X4_advance_79 j_X4_advance_139
        rw [eLet, e5, if_neg n4, if_neg n5, if_neg n4, eLet]
      · rw [if_neg (fun z => k45 (Or.inl z))]
        rfl
theorem vl_le {s : Nat} : ∀ {j : Nat}, (∀ i, i < j → B (s + i) ≤ 57) → vl B s j < 10 ^ j
  | 0, _ => by
    show 0 < 10 ^ 0
    decide
  | j + 1, h => by
    have h1 := vl_le (s := s) (j := j) fun i hi => h i (by omega)
    have h2 := h j (by omega)
    show 10 * vl B s j + (B (s + j) - 48) < 10 ^ (j + 1)
    rw [Nat.pow_succ]
    omega
end P63_vl
section P65_c_digits
variable {n len NP : Nat} {inp rd rr M : OS} {B : Nat → Nat}
theorem c_digits (hT : Tx B len inp M) {s e a b : Nat} (hse : s ≤ e) (he : e ≤ len) (h3 : e - s ≤ 3) (h7 : rd.1 7 = nI e) (hd : ∀ j, s ≤ j → j < e → 48 ≤ B j ∧ B j ≤ 57) : ∀ (d i N : Nat), s + i + d = e → d < N → l_X4_readNumber_35 n 600 inp (nI a) (nI b) N rd (nI (vl B s i)) (nI (s + i)) = j_X4_readNumber_68 n 600 inp (nI a) (nI b) rd (nI (vl B s (e - s)))
  | 0, i, N, hi, hN => by
    obtain ⟨N', rfl⟩ : ∃ N', N = N' + 1 := ⟨N - 1, by omega⟩
    have h600 := hT.1
    show s_X4_readNumber_35 n 600 inp (nI a) (nI b) _ rd (nI (vl B s i)) (nI (s + i)) = _
    unfold s_X4_readNumber_35
    rw [h7, if_pos (nI_le (by omega) (by omega)), show e - s = i by omega]
  | d + 1, i, N, hi, hN => by
    obtain ⟨N', rfl⟩ : ∃ N', N = N' + 1 := ⟨N - 1, by omega⟩
    have h600 := hT.1
    have hb := hd (s + i) (by omega) (by omega)
    have hvl := vl_le (B := B) (s := s) (j := i) fun k hk => (hd (s + k) (by omega) (by omega)).2
    have hp : 10 ^ i ≤ 10 ^ 3 := Nat.pow_le_pow_right (by decide) (by omega)
    have hv : nI (vl B s i) * (10 : Int32) + nI (B (s + i)) - 48 = nI (vl B s (i + 1)) := by
      rw [show (10 : Int32) = nI 10 from rfl, pk_mul, nI_add, show (48 : Int32) = nI 48 from rfl, pk_sub (by omega)]
      congr 1
      show vl B s i * 10 + B (s + i) - 48 = 10 * vl B s i + (B (s + i) - 48)
      omega
    show s_X4_readNumber_35 n 600 inp (nI a) (nI b) (l_X4_readNumber_35 n 600 inp (nI a) (nI b) N') rd (nI (vl B s i)) (nI (s + i)) = _
    unfold s_X4_readNumber_35
    rw [h7, if_neg (nI_ge (show s + i < e by omega) (by omega)), c_at hT (by omega), ebnd, if_pos (show s + i < len by omega), eLet, hv, eLet, nI_1]
    exact c_digits hT hse he h3 h7 hd d (i + 1) N' (by omega) (by omega)
end P65_c_digits
section P66_c_addP_loop
variable {n len P NP E Bs F Pt Ap LC CC w : Nat} {inp rd rr fo M : OS} {B : Nat → Nat}
theorem c_addP_loop {s e : Nat} (hT : Tx B len inp M) (hse : s ≤ e) (hel : e ≤ len) (h6 : e - s ≤ 6) (hNP : NP < 8) : ∀ (d i N : Nat) (th : OS), i + d = e - s → d < N → th.1 1 = nI NP → (∀ k, k < i → th.2.1 7 (7 * NP + k) = nI (B (s + k))) → ∃ r2, l_X5_addProcess_3 n 600 inp (nI s) (nI e) N th (nI (s + i)) = some r2 ∧ r2.1 1 = nI (NP + 1) ∧ (∀ j, j ≠ 1 → r2.1 j = th.1 j) ∧ (∀ k, k < e - s → r2.2.1 7 (7 * NP + k) = nI (B (s + k))) ∧ r2.2.1 7 (7 * NP + 6) = nI (e - s) ∧ (∀ k, k < 7 * NP → r2.2.1 7 k = th.2.1 7 k)
  | 0, i, N, th, hi, hN, h1, hk => by
    obtain ⟨N', rfl⟩ : ∃ N', N = N' + 1 := ⟨N - 1, by omega⟩
    have h600 := hT.1
    have e1 : f_X6_set n (7 : Int32) 56 (th.2.1 7) (nI NP) (6 : Int32) (nI (e - s)) = some (upd (th.2.1 7) (7 * NP + 6) (nI (e - s))) := tset (cc := 7) (z := 56) (v := NP) (j := 6) (7 * NP + 6) (by omega) (by omega) (by decide)
    refine ⟨sI (sA th 7 (upd (th.2.1 7) (7 * NP + 6) (nI (e - s)))) 1 (nI (NP + 1)), ?_, sI_s, fun j hj => sI_o hj, fun k hk2 => ?_, ?_, fun k hk2 => ?_⟩
    · show s_X5_addProcess_3 n 600 inp (nI s) (nI e) _ th (nI (s + i)) = _
      unfold s_X5_addProcess_3 j_X5_addProcess_36
      rw [if_pos (nI_le (show e ≤ s + i by omega) (by omega)), h1, pk_sub hse, e1, ebnd, eLet, sA_1, h1, nI_1, eLet]
    · rw [sI_2, sA_get, upd_n (by omega)]
      exact hk k (by omega)
    · rw [sI_2, sA_get, upd_s]
    · rw [sI_2, sA_get, upd_n (by omega)]
  | d + 1, i, N, th, hi, hN, h1, hk => by
    obtain ⟨N', rfl⟩ : ∃ N', N = N' + 1 := ⟨N - 1, by omega⟩
    have h600 := hT.1
    have e1 : f_X6_set n (7 : Int32) 56 (th.2.1 7) (nI NP) (nI i) (nI (B (s + i))) = some (upd (th.2.1 7) (7 * NP + i) (nI (B (s + i)))) := tset (cc := 7) (z := 56) (v := NP) (j := i) (7 * NP + i) (by omega) (by omega) (by decide)
    obtain ⟨r2, q1, q2, q3, q4, q5, q6⟩ := c_addP_loop hT hse hel h6 hNP d (i + 1) N' (sA th 7 (upd (th.2.1 7) (7 * NP + i) (nI (B (s + i))))) (by omega) (by omega) h1 (fun k hk2 => by
      rw [sA_get]
      by_cases z : k = i
      · rw [z, upd_s]
      · rw [upd_n (by omega)]
        exact hk k (by omega))
    refine ⟨r2, ?_, q2, q3, q4, q5, fun k hk2 => ?_⟩
    · show s_X5_addProcess_3 n 600 inp (nI s) (nI e) (l_X5_addProcess_3 n 600 inp (nI s) (nI e) N') th (nI (s + i)) = _
      unfold s_X5_addProcess_3
      rw [if_neg (nI_ge (show s + i < e by omega) (by omega)), c_at hT (by omega), ebnd, if_pos (show s + i < len by omega), h1, pk_sub (show s ≤ s + i by omega), show s + i - s = i by omega, e1, ebnd, eLet, nI_1, eLet]
      exact q1
    · rw [q6 k hk2, sA_get, upd_n (by omega)]
theorem c_addProcess {s e : Nat} (hT : Tx B len inp M) (hse : s ≤ e) (hel : e ≤ len) (h6 : e - s ≤ 6) (hNP : NP < 8) (h1 : rr.1 1 = nI NP) (hn : 700 < n) : ∃ r2, f_X5_addProcess n rr 600 inp (nI s) (nI e) = some r2 ∧ r2.1 1 = nI (NP + 1) ∧ (∀ j, j ≠ 1 → r2.1 j = rr.1 j) ∧ (∀ k, k < e - s → r2.2.1 7 (7 * NP + k) = nI (B (s + k))) ∧ r2.2.1 7 (7 * NP + 6) = nI (e - s) ∧ (∀ k, k < 7 * NP → r2.2.1 7 k = rr.2.1 7 k) := c_addP_loop hT hse hel h6 hNP (e - s) 0 n rr (by omega) (by omega) h1 (fun k hk => absurd hk (by omega))
theorem R0.moreN {D K T FC : Nat} {c : OS} {m : Nat → Int32} (h : R0 P NP D K T LC CC FC c m) : R0 P (NP + 1) D K T LC CC FC c m := by
  obtain ⟨h0, h1, h2, h3, h4, h5, h6, h7, h8⟩ := h
  refine ⟨h0, h1, h2, h3, h4, fun l hl => ⟨?_, (h5 l hl).2⟩, fun q hq => ⟨?_, (h6 q hq).2⟩, h7, fun r hr hf => ⟨?_, (h8 r hr hf).2⟩⟩
  · obtain ⟨p, p1, p2⟩ := (h5 l hl).1
    exact ⟨p, by omega, p2⟩
  · obtain ⟨p, p1, p2⟩ := (h6 q hq).1
    exact ⟨p, by omega, p2⟩
  · obtain ⟨p, p1, p2⟩ := (h8 r hr hf).1
    exact ⟨p, by omega, p2⟩
end P66_c_addP_loop
section P68_lo5
variable {n len P NP E Bs F Pt Ap LC CC w : Nat} {inp rd rr fo M : OS} {B : Nat → Nat}
theorem oncebits : ∀ u : Fin 64, ∀ i : Fin 6, (decide (nI u.val &&& wBit (nI (i.val + 3)) = 0) = decide (((nI u.val >>> (nI i.val &&& 31)) &&& 1) = 0)) ∧ nI u.val ||| wBit (nI (i.val + 3)) = nI (u.val ||| 2 ^ i.val) ∧ (nI u.val ||| ((1 : Int32) <<< (nI i.val &&& 31))) = nI (u.val ||| 2 ^ i.val) ∧ (u.val ||| 2 ^ i.val) < 64 := by decide +kernel
def fst1 (w i : Nat) : Bool := decide (nI w &&& wBit (nI (i + 3)) = 0)
theorem c_first {i : Nat} (hi : i < 6) (hw : w < 64) (h8 : rd.1 8 = nI (i + 3)) (h11 : rd.1 11 = nI w) : f_X4_isFirstOfItsKind n rd = some (sI rd 11 (nI (w ||| 2 ^ i)), bI (fst1 w i)) := by
  obtain ⟨o1, o2, o3, o4⟩ := oncebits ⟨w, hw⟩ ⟨i, hi⟩
  have e : ∀ b : Bool, j_X4_isFirstOfItsKind_20 n rd (bI b) = some (sI rd 11 (nI (w ||| 2 ^ i)), bI b) := fun b => by
    unfold j_X4_isFirstOfItsKind_20
    rw [h8, h11, egN (by omega) (by decide), eLet, egZ, o2]
  unfold f_X4_isFirstOfItsKind fst1
  rw [h8, h11, egN (by omega) (by decide)]
  by_cases q : nI w &&& wBit (nI (i + 3)) = 0
  · rw [if_pos q, decide_eq_true q]
    exact e true
  · rw [if_neg q, decide_eq_false q]
    exact e false
def lo5 (i : Nat) : Nat := [1, 1, 1, 1, 0].getD i 0
def hi5 (i : Nat) : Nat := [50, 100, 99, 20, 99].getD i 0
theorem lohi : ∀ i : Fin 5, wLow (nI (i.val + 3)) = nI (lo5 i.val) ∧ wHigh (nI (i.val + 3)) = nI (hi5 i.val) ∧ lo5 i.val < 2 ^ 30 ∧ hi5 i.val < 2 ^ 30 := by decide +kernel
theorem c_set5 {i : Nat} (hi : i < 5) (v : Int32) : f_X5_set n rr (nI (i + 3)) v = some (sI rr (i + 2) v) := by
  have hi2 : i = 0 ∨ i = 1 ∨ i = 2 ∨ i = 3 ∨ i = 4 := by omega
  unfold f_X5_set
  rw [egN (by omega) (by decide), egN (by omega) (by decide), eLet]
  rcases hi2 with rfl | rfl | rfl | rfl | rfl <;> rfl
end P68_lo5
section P69_fillI
variable {n P NP E Bs F Pt Ap : Nat} {c rr ru M : OS}
theorem fillI {z : Nat} (hz : z < 2 ^ 31) (hn : z < n) (t : Nat → Int32) : ∃ y, f_J7_fill_53178 n z t 0 = some y ∧ ∀ k, k < z → y k = 0 := by
  have h := loop_inv (l := l_J7_fill_53178_5 n z 0 (nI z)) (fun i s => ∀ k, k < i → s k = (0 : Int32)) (Q := fun r => ∀ k, k < z → r k = 0) (K := z) (fun N s hs => ?_) (fun N s i hi hs => Or.inl ?_) 0 n t (by omega) (by omega) (fun k hk => absurd hk (by omega))
  · exact h
  · refine ⟨s, ?_, hs⟩
    show s_J7_fill_53178_5 n z 0 (nI z) _ s (nI z) = _
    unfold s_J7_fill_53178_5
    rw [if_pos (show nI z ≤ nI z from Int32.le_refl (nI z))]
  · refine ⟨upd s i 0, fun k hk => ?_, ?_⟩
    · by_cases e : k = i
      · subst e
        rw [upd_s]
      · rw [upd_n e]
        exact hs k (by omega)
    · show s_J7_fill_53178_5 n z 0 (nI z) _ s (nI i) = _
      unfold s_J7_fill_53178_5
      rw [if_neg (nI_ge hi hz), egN hi hz, eLet, eLet, nI_clamp (by omega), nI_1]
theorem fillL {z : Nat} (hz : z < 2 ^ 31) (hn : z < n) (t : Nat → Int64) : ∃ y, f_J7_fill_d0a16 n z t 0 = some y ∧ ∀ k, k < z → y k = 0 := by
  have h := loop_inv (l := l_J7_fill_d0a16_6 n z 0 (nI z)) (fun i s => ∀ k, k < i → s k = (0 : Int64)) (Q := fun r => ∀ k, k < z → r k = 0) (K := z) (fun N s hs => ?_) (fun N s i hi hs => Or.inl ?_) 0 n t (by omega) (by omega) (fun k hk => absurd hk (by omega))
  · exact h
  · refine ⟨s, ?_, hs⟩
    show s_J7_fill_d0a16_6 n z 0 (nI z) _ s (nI z) = _
    unfold s_J7_fill_d0a16_6
    rw [if_pos (show nI z ≤ nI z from Int32.le_refl (nI z))]
  · refine ⟨vp_updL s i 0, fun k hk => ?_, ?_⟩
    · by_cases e : k = i
      · subst e
        exact pk_uLs
      · have : vp_updL s i 0 k = s k := if_neg e
        rw [this]
        exact hs k (by omega)
    · show s_J7_fill_d0a16_6 n z 0 (nI z) _ s (nI i) = _
      unfold s_J7_fill_d0a16_6
      rw [if_neg (nI_ge hi hz), egN hi hz, eLet, eLet, nI_clamp (by omega), nI_1]
def own0 (P k : Nat) : Int32 := if k < P then -1 else -2
theorem beg_loop (hP : P ≤ 64) (hn : 700 < n) (c : OS) : ∃ y, l_X2_begin_62 n (nI P) n c 0 = some (sA c 10 y) ∧ ∀ k, k < 64 → y k = own0 P k := by
  have hh := loop_inv (l := fun N (s : Nat → Int32) i => l_X2_begin_62 n (nI P) N (sA c 10 s) i) (fun i s => ∀ k, k < i → s k = own0 P k) (Q := fun r => ∃ y, r = sA c 10 y ∧ ∀ k, k < 64 → y k = own0 P k) (K := 64) (fun N s hs => ?_) (fun N s i hi hs => Or.inl ?_) 0 n (c.2.1 10) (by omega) (by omega) (fun k hk => absurd hk (by omega))
  · obtain ⟨r, h1, y, h2, h3⟩ := hh
    refine ⟨y, ?_, h3⟩
    rw [← h2, ← h1, sA_self]
    rfl
  · refine ⟨_, ?_, s, rfl, hs⟩
    show s_X2_begin_62 n (nI P) _ (sA c 10 s) (nI 64) = _
    unfold s_X2_begin_62
    rw [if_pos (show (64 : Int32) ≤ nI 64 from Int32.le_refl (64 : Int32))]
  · refine ⟨upd s i (own0 P i), fun k hk => ?_, ?_⟩
    · by_cases e : k = i
      · rw [e, upd_s]
      · rw [upd_n e]
        exact hs k (by omega)
    · show s_X2_begin_62 n (nI P) (l_X2_begin_62 n (nI P) N) (sA c 10 s) (nI i) = _
      unfold s_X2_begin_62
      rw [if_neg (show ¬ (64 : Int32) ≤ nI i from nI_ge (a := i) (b := 64) hi (by decide))]
      by_cases q : i < P
      · rw [if_neg (nI_ge q (by omega)), egN hi (by decide), eLet, sA_get, sA_sA, nI_clamp (by omega), eLet, nI_1, show own0 P i = -1 from if_pos q]
      · rw [if_pos (nI_le (show P ≤ i by omega) (by omega)), egN hi (by decide), eLet, sA_get, sA_sA, nI_clamp (by omega), eLet, nI_1, show own0 P i = -2 from if_neg q]
theorem c_begin (hP : P ≤ 64) (hn : 700 < n) (c : OS) : ∃ c', f_X2_begin n c (nI P) = some c' ∧ c'.1 2 = nI P ∧ (∀ j, j < 9 → j ≠ 2 → c'.1 j = 0) ∧ (∀ k, k < 40 → c'.2.1 11 k = 0) ∧ (∀ k, k < 251 → c'.2.2.1 9 k = 0) ∧ (∀ k, k < 64 → c'.2.1 10 k = own0 P k) := by
  obtain ⟨c9, hc9⟩ : ∃ c9, c9 = sI (sI (sI (sI (sI (sI (sI (sI (sI c 0 0) 1 0) 2 (nI P)) 3 0) 4 0) 5 0) 6 0) 7 0) 8 0 := ⟨_, rfl⟩
  obtain ⟨y, y1, y2⟩ := fillI (n := n) (z := 40) (by decide) (by omega) (c9.2.1 11)
  obtain ⟨w, w1, w2⟩ := fillL (n := n) (z := 251) (by decide) (by omega) ((sA c9 11 y).2.2.1 9)
  obtain ⟨v, v1, v2⟩ := beg_loop hP hn (sL (sA c9 11 y) 9 w)
  refine ⟨sA (sL (sA c9 11 y) 9 w) 10 v, ?_, ?_, fun j hj hj2 => ?_, ?_, ?_, ?_⟩
  · unfold f_X2_begin
    rw [eLet, eLet, eLet, eLet, eLet, eLet, eLet, eLet, eLet, ← hc9]
    unfold f_X6_clear
    rw [y1, ebnd, eLet, ebnd, eLet, w1, ebnd, eLet, v1]
  · rw [sA_1, sL_1, sA_1, hc9]
    rfl
  · rw [sA_1, sL_1, sA_1, hc9]
    match j, hj, hj2 with
    | 0, _, _ => rfl
    | 1, _, _ => rfl
    | 2, _, h => exact absurd rfl h
    | 3, _, _ => rfl
    | 4, _, _ => rfl
    | 5, _, _ => rfl
    | 6, _, _ => rfl
    | 7, _, _ => rfl
    | 8, _, _ => rfl
  · intro k hk
    exact y2 k hk
  · intro k hk
    exact w2 k hk
  · intro k hk
    rw [sA_get]
    exact v2 k hk
theorem c_rbegin (v : Int32) (r : OS) : ∃ r', f_X5_begin n r v = some r' ∧ r'.1 0 = v ∧ r'.1 1 = nI 0 ∧ r'.1 2 = nI 5 ∧ r'.1 3 = nI 10 ∧ r'.1 4 = nI 20 ∧ r'.1 5 = nI 3 ∧ r'.1 6 = nI 10 := by
  have k3 : wUsual 3 = nI 5 := by decide +kernel
  have k4 : wUsual 4 = nI 10 := by decide +kernel
  have k5 : wUsual 5 = nI 20 := by decide +kernel
  have k6 : wUsual 6 = nI 3 := by decide +kernel
  have k7 : wUsual 7 = nI 10 := by decide +kernel
  unfold f_X5_begin
  rw [eLet, eLet, show gI 14 (3 : Int32) _ = _ from egN (k := 3) (by decide) (by decide), eLet, show gI 14 (4 : Int32) _ = _ from egN (k := 4) (by decide) (by decide), eLet, show gI 14 (5 : Int32) _ = _ from egN (k := 5) (by decide) (by decide), eLet, show gI 14 (6 : Int32) _ = _ from egN (k := 6) (by decide) (by decide), eLet, show gI 14 (7 : Int32) _ = _ from egN (k := 7) (by decide) (by decide), eLet, k3, k4, k5, k6, k7]
  exact ⟨_, rfl, rfl, rfl, rfl, rfl, rfl, rfl, rfl⟩
def row0 (i : Nat) : Int32 := if 538 ≤ i ∧ i ≤ 601 then -1 else 0
theorem row0_z {i : Nat} (h : i < 538 ∨ 601 < i) : row0 i = 0 := if_neg (by omega)
theorem RR_new {D : Nat} {m : Nat → Int32} (hP : P ≤ 64) (h2 : c.1 2 = nI P) (h0 : ∀ j, j < 9 → j ≠ 2 → c.1 j = 0) (h11 : ∀ k, k < 40 → c.2.1 11 k = 0) (h9 : ∀ k, k < 251 → c.2.2.1 9 k = 0) (h10 : ∀ k, k < 64 → c.2.1 10 k = own0 P k) (hm : ∀ i, i < 1846 → m i = row0 i) : RR P 0 D 0 0 0 0 c m := by
  have mz : ∀ i, i < 538 → m i = 0 := fun i hi => (hm i (by omega)).trans (row0_z (by omega))
  have mo : ∀ k, k < P → m (538 + k) = -1 := fun k hk => (hm _ (by omega)).trans (if_pos (by omega))
  have hpc : pc m P (-1) = P := fb_ct_all.mpr fun k hk => decide_eq_true (mo k hk)
  have zc : ∀ i, (0 : Int64).toBitVec.getLsbD i = false := fun i => BitVec.getLsbD_zero
  have zm : ∀ i, (0 : Int32).toBitVec.getLsbD i = false := fun i => BitVec.getLsbD_zero
  refine ⟨⟨⟨⟨?_, ?_, ?_, ?_, ?_, ?_⟩, ⟨fun k hk => ?_, fun k h1 h3 => ?_⟩, ?_, fun p hp => ⟨?_, ?_, ?_, ?_, ?_⟩, fun l hl => absurd hl (by omega), fun q hq => absurd hq (by omega), fun r _ hr => absurd hr (by omega), fun p hp => ⟨fun t ht => ?_, fun t ht _ => ?_⟩⟩, ⟨⟨mz 0 (by omega), by omega, ⟨0, by omega, mz 1 (by omega)⟩, mz 6 (by omega), by omega, mz 7 (by omega), by omega, mz 4 (by omega), by omega⟩, ⟨hP, fun k hk => Or.inl (mo k hk)⟩, fun p hp => ⟨⟨0, by omega, mz _ (by omega)⟩, ⟨0, by omega, mz _ (by omega)⟩⟩, fun p hp => mz _ (by omega), fun l hl => absurd hl (by omega), fun q hq => absurd hq (by omega), ⟨mz 8 (by omega), mz 9 (by omega), by omega⟩, fun r _ hr => absurd hr (by omega)⟩⟩, ⟨?_, ?_⟩, ⟨0, by omega, mz 3 (by omega)⟩, by omega⟩
  · rw [h0 0 (by omega) (by omega), mz 0 (by omega)]
  · rw [h0 1 (by omega) (by omega), mz 1 (by omega)]
  · rw [h0 3 (by omega) (by omega), mz 6 (by omega)]
  · rw [h0 4 (by omega) (by omega), mz 7 (by omega)]
  · rw [h0 5 (by omega) (by omega), mz 4 (by omega)]
  · rw [h0 8 (by omega) (by omega), mz 5 (by omega)]
  · rw [h10 k (by omega), mo k hk]
    exact if_pos hk
  · rw [h10 k h3]
    exact if_neg (by omega)
  · show c.1 2 = nI (pc m P (-1))
    rw [h2, hpc]
  · rw [h11 _ (by omega), mz _ (by omega)]
  · rw [h11 _ (by omega), mz _ (by omega)]
  · rw [h11 _ (by omega), mz _ (by omega)]
  · rw [h11 _ (by omega), mz _ (by omega)]
  · rw [h11 _ (by omega), mz _ (by omega)]
  · unfold cb mb
    rw [h9 _ (by omega), hm _ (by omega), row0_z (by omega), zc, zm]
  · unfold cb
    rw [h9 _ (by omega), zc]
  · rw [h0 6 (by omega) (by omega), mz 2 (by omega)]
  · rw [h0 7 (by omega) (by omega), mz 3 (by omega)]
theorem c_rcopy (th p : OS) : ∃ c', f_X5_copyFrom n th p = some c' ∧ (∀ j, j < 7 → c'.1 j = p.1 j) ∧ (∀ k, k < 56 → c'.2.1 7 k = p.2.1 7 k) := by
  unfold f_X5_copyFrom
  simp only [eLet]
  rw [tcpy (by decide), ebnd]
  refine ⟨_, rfl, ?_, ?_⟩
  · intro j hj
    match j, hj with
    | 0, _ => rfl
    | 1, _ => rfl
    | 2, _ => rfl
    | 3, _ => rfl
    | 4, _ => rfl
    | 5, _ => rfl
    | 6, _ => rfl
  · intro k hk
    exact sb_cpy0 (n := 56) hk
end P69_fillI
