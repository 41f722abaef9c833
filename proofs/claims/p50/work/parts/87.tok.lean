/-! the tokens of a text that is known -/
def kdc (c : Nat) : Nat := if c = 32 then 1 else if c = 10 then 1 else if c = 59 then 3 else if 97 ≤ c ∧ c ≤ 122 then 4 else if 48 ≤ c ∧ c ≤ 57 then 5 else 2
def kdR : List Nat → Nat
  | [] => 0
  | c :: _ => kdc c
theorem kdc_0 (c : Nat) : kdc c ≠ 0 := by
  unfold kdc
  repeat (first | split | omega)
theorem kdc_4 {c : Nat} (h : kdc c = 4) : 97 ≤ c ∧ c ≤ 122 := by
  unfold kdc at h
  revert h
  repeat (first | split | (intro z; omega))
theorem kdc_5 {c : Nat} (h : kdc c = 5) : 48 ≤ c ∧ c ≤ 57 := by
  unfold kdc at h
  revert h
  repeat (first | split | (intro z; omega))
theorem tx_at (A : List Nat) (c : Nat) (R : List Nat) : tx (A ++ c :: R) A.length = c := by
  unfold tx
  rw [List.getD_eq_getElem?_getD, List.getElem?_append_right (Nat.le_refl _), Nat.sub_self]
  rfl
theorem tx_in {A X R : List Nat} {j : Nat} (h : j < X.length) : tx (A ++ X ++ R) (A.length + j) = tx X j := by
  unfold tx
  rw [List.getD_eq_getElem?_getD, List.getD_eq_getElem?_getD, List.append_assoc, List.getElem?_append_right (by omega), Nat.add_sub_cancel_left, List.getElem?_append_left h]
theorem kd_at (A R : List Nat) : kd (tx (A ++ R)) (A ++ R).length A.length = kdR R := by
  cases R with
  | nil => exact if_neg (by rw [List.append_nil]; omega)
  | cons c R =>
    unfold kd
    rw [if_pos (by rw [List.length_append, List.length_cons]; omega), tx_at]
    rfl
theorem rne_run {k : Nat} : ∀ (X S R : List Nat) (d : Nat), (∀ c ∈ X, kdc c = k) → kdR R ≠ k → X.length ≤ d → rne (tx (S ++ X ++ R)) (S ++ X ++ R).length k d S.length = S.length + X.length
  | [], S, R, d, _, h2, _ => by
    cases d with
    | zero => rfl
    | succ d =>
      show (if kd (tx (S ++ [] ++ R)) (S ++ [] ++ R).length S.length = k then _ else S.length) = _
      rw [List.append_nil, kd_at, if_neg h2]
      rfl
  | c :: X, S, R, d, h1, h2, h3 => by
    obtain ⟨d', rfl⟩ : ∃ d', d = d' + 1 := ⟨d - 1, by rw [List.length_cons] at h3; omega⟩
    have e : S ++ c :: X ++ R = S ++ (c :: (X ++ R)) := by rw [List.append_assoc]; rfl
    have e2 : S ++ c :: X ++ R = (S ++ [c]) ++ X ++ R := by simp only [List.append_assoc, List.cons_append, List.nil_append]
    have ih := rne_run X (S ++ [c]) R d' (fun x hx => h1 x (List.mem_cons_of_mem _ hx)) h2 (by rw [List.length_cons] at h3; omega)
    show (if kd (tx (S ++ c :: X ++ R)) (S ++ c :: X ++ R).length S.length = k then rne (tx (S ++ c :: X ++ R)) (S ++ c :: X ++ R).length k d' (S.length + 1) else S.length) = _
    rw [if_pos (by rw [e, kd_at]; exact h1 c List.mem_cons_self), e2]
    rw [List.length_append (as := S) (bs := [c]), List.length_singleton] at ih
    rw [ih, List.length_cons]
    omega
theorem mtc_cong {B B' : Nat → Nat} {s s' i : Nat} : ∀ {k : Nat}, (∀ j, j < k → B (s + j) = B' (s' + j)) → mtc B s i k = mtc B' s' i k
  | 0, _ => rfl
  | k + 1, h => by
    show (mtc B s i k && decide (wch i k = B (s + k))) = (mtc B' s' i k && decide (wch i k = B' (s' + k)))
    rw [mtc_cong (k := k) (fun j hj => h j (by omega)), h k (by omega)]
theorem mtw_cong {B B' : Nat → Nat} {s e s' e' i : Nat} (he : e - s = e' - s') (h : ∀ j, j < e - s → B (s + j) = B' (s' + j)) : mtw B s e i = mtw B' s' e' i := by
  unfold mtw
  rw [he]
  by_cases c : wln i = e' - s'
  · rw [mtc_cong (s' := s') (B' := B') fun j hj => h j (by omega)]
  · rw [decide_eq_false c, Bool.false_and, Bool.false_and]
theorem fwd_cong {B B' : Nat → Nat} {s e s' e' : Nat} (he : e - s = e' - s') (h : ∀ j, j < e - s → B (s + j) = B' (s' + j)) : ∀ d i, fwd B s e d i = fwd B' s' e' d i
  | 0, _ => rfl
  | d + 1, i => by rw [fwd_succ, fwd_succ, mtw_cong he h, fwd_cong he h d (i + 1)]
theorem wdx_cong {B B' : Nat → Nat} {s e s' e' : Nat} (he : e - s = e' - s') (h : ∀ j, j < e - s → B (s + j) = B' (s' + j)) : wdx B s e = wdx B' s' e' := by
  unfold wdx
  rw [fwd_cong he h]
theorem vl_cong {B B' : Nat → Nat} {s s' : Nat} : ∀ {k : Nat}, (∀ j, j < k → B (s + j) = B' (s' + j)) → vl B s k = vl B' s' k
  | 0, _ => rfl
  | k + 1, h => by
    show 10 * vl B s k + (B (s + k) - 48) = 10 * vl B' s' k + (B' (s' + k) - 48)
    rw [vl_cong (k := k) (fun j hj => h j (by omega)), h k (by omega)]
/-- a token, what stands behind it, its kind, the word that it is -/
def Tok (tk R : List Nat) (k w : Nat) : Prop := (k = 0 ∧ tk = [] ∧ R = [] ∧ w = 0) ∨ (k = 3 ∧ tk = [59] ∧ w = 0) ∨ (k = 4 ∧ tk ≠ [] ∧ (∀ c ∈ tk, kdc c = 4) ∧ kdR R ≠ 4 ∧ w = wdx (tx tk) 0 tk.length) ∨ (k = 5 ∧ tk ≠ [] ∧ (∀ c ∈ tk, kdc c = 5) ∧ kdR R ≠ 5 ∧ w = 0)
theorem Tok.kd {tk R : List Nat} {k w : Nat} (h : Tok tk R k w) : kdR (tk ++ R) = k := by
  rcases h with ⟨a, b, c, d⟩ | ⟨a, b, c⟩ | ⟨a, b, c, d, e⟩ | ⟨a, b, c, d, e⟩
  · rw [a, b, c]; rfl
  · rw [a, b]; rfl
  · rw [a]
    cases tk with
    | nil => exact absurd rfl b
    | cons x tk => exact c x List.mem_cons_self
  · rw [a]
    cases tk with
    | nil => exact absurd rfl b
    | cons x tk => exact c x List.mem_cons_self
/-- the reader stands at the token tk behind A -/
def Rd9 (A tk R : List Nat) (k w : Nat) (rd : OS) : Prop := rd.1 6 = nI A.length ∧ rd.1 7 = nI (A.length + tk.length) ∧ rd.1 5 = nI k ∧ rd.1 8 = nI w ∧ Tok tk R k w
section TOK9
variable {n : Nat} {inp rd M : OS} {T A tk R : List Nat} {k w : Nat}
theorem tok_at (S tk R : List Nat) (hk : Tok tk R k w) : tE (tx (S ++ (tk ++ R))) (S ++ (tk ++ R)).length S.length = S.length + tk.length ∧ tS (tx (S ++ (tk ++ R))) (S ++ (tk ++ R)).length S.length = S.length ∧ k ≠ 1 := by
  have h1 : kd (tx (S ++ (tk ++ R))) (S ++ (tk ++ R)).length S.length = k := by rw [kd_at, hk.kd]
  have hk1 : k ≠ 1 := by
    rcases hk with ⟨a, _⟩ | ⟨a, _⟩ | ⟨a, _⟩ | ⟨a, _⟩ <;> omega
  have hS : tS (tx (S ++ (tk ++ R))) (S ++ (tk ++ R)).length S.length = S.length := skp_fix _ _ (by rw [h1]; exact hk1)
  refine ⟨?_, hS, hk1⟩
  unfold tE
  rw [hS, h1]
  have run : ∀ kk, tk ≠ [] → (∀ c ∈ tk, kdc c = kk) → kdR R ≠ kk → rne (tx (S ++ (tk ++ R))) (S ++ (tk ++ R)).length kk ((S ++ (tk ++ R)).length - (S.length + 1)) (S.length + 1) = S.length + tk.length := fun kk b c d => by
    cases tk with
    | nil => exact absurd rfl b
    | cons x tk =>
      have e2 : S ++ (x :: tk ++ R) = (S ++ [x]) ++ tk ++ R := by simp only [List.append_assoc, List.cons_append, List.nil_append]
      have h9 := rne_run (k := kk) tk (S ++ [x]) R ((S ++ (x :: tk ++ R)).length - (S.length + 1)) (fun y hy => c y (List.mem_cons_of_mem _ hy)) d (by simp only [List.length_append, List.length_cons]; omega)
      rw [e2]
      rw [e2, List.length_append (as := S) (bs := [x]), List.length_singleton] at h9
      rw [h9, List.length_cons]
      omega
  rcases hk with ⟨a, b, c, d⟩ | ⟨a, b, c⟩ | ⟨a, b, c, d, e⟩ | ⟨a, b, c, d, e⟩
  · rw [if_pos a, b]; rfl
  · rw [if_neg (by omega), if_neg (by omega), b]; rfl
  · rw [if_neg (by omega), if_pos (by omega), a]
    exact run 4 b c d
  · rw [if_neg (by omega), if_pos (by omega), a]
    exact run 5 b c d
theorem skip_one (A R : List Nat) : tS (tx (A ++ ([32] ++ R))) (A ++ ([32] ++ R)).length A.length = tS (tx (A ++ ([32] ++ R))) (A ++ ([32] ++ R)).length (A.length + 1) := by
  have h1 : kd (tx (A ++ ([32] ++ R))) (A ++ ([32] ++ R)).length A.length = 1 := by rw [kd_at]; rfl
  have e1 : (A ++ ([32] ++ R)).length - A.length = ((A ++ ([32] ++ R)).length - (A.length + 1)) + 1 := by
    simp only [List.length_append, List.length_singleton]
    omega
  unfold tS
  rw [e1]
  show (if kd (tx (A ++ ([32] ++ R))) (A ++ ([32] ++ R)).length A.length = 1 then _ else A.length) = _
  rw [if_pos h1]
theorem tok_sp (A sp tk R : List Nat) (hs : sp = [] ∨ sp = [32]) (hk : Tok tk R k w) : tS (tx (A ++ sp ++ (tk ++ R))) (A ++ sp ++ (tk ++ R)).length A.length = (A ++ sp).length ∧ tE (tx (A ++ sp ++ (tk ++ R))) (A ++ sp ++ (tk ++ R)).length A.length = (A ++ sp).length + tk.length := by
  obtain ⟨h1, h2, h3⟩ := tok_at (A ++ sp) tk R hk
  rcases hs with e | e
  · subst e
    rw [List.append_nil] at h1 h2 ⊢
    exact ⟨h2, h1⟩
  · subst e
    have e3 : A ++ [32] ++ (tk ++ R) = A ++ ([32] ++ (tk ++ R)) := List.append_assoc _ _ _
    have hS : tS (tx (A ++ [32] ++ (tk ++ R))) (A ++ [32] ++ (tk ++ R)).length A.length = (A ++ [32]).length := by
      rw [← h2, e3, skip_one, List.length_append (as := A) (bs := [32]), List.length_singleton]
    refine ⟨hS, ?_⟩
    rw [← h1]
    unfold tE
    rw [hS, h2]
/-- the reader goes on by a token -/
theorem adv9 (hT : Tx (tx T) T.length inp M) (hn : 700 < n) {sp : List Nat} (e : T = A ++ sp ++ (tk ++ R)) (hs : sp = [] ∨ sp = [32]) (hk : Tok tk R k w) (h7 : rd.1 7 = nI A.length) : ∃ rd', f_X4_advance n rd 600 inp = some rd' ∧ Rd9 (A ++ sp) tk R k w rd' ∧ (∀ j, j < 5 ∨ 8 < j → rd'.1 j = rd.1 j) ∧ rd'.2 = rd.2 := by
  subst e
  obtain ⟨t1, t2⟩ := tok_sp A sp tk R hs hk
  obtain ⟨rd', a1, ⟨b1, b2, b3, b4⟩, a3, a4⟩ := c_advance (rd := rd) hT hn (e0 := A.length) (by simp only [List.length_append]; omega) h7
  rw [t1] at b1 b3 b4
  rw [t2] at b2 b4
  have hkd : kd (tx (A ++ sp ++ (tk ++ R))) (A ++ sp ++ (tk ++ R)).length (A ++ sp).length = k := by rw [kd_at, hk.kd]
  rw [hkd] at b3 b4
  refine ⟨rd', a1, ⟨b1, b2, b3, ?_, hk⟩, a3, a4⟩
  rw [b4]
  rcases hk with ⟨a, b, c, d⟩ | ⟨a, b, c⟩ | ⟨a, b, c, d, ew⟩ | ⟨a, b, c, d, ew⟩
  · rw [if_neg (by omega), d]
  · rw [if_neg (by omega), c]
  · rw [if_pos a, ew]
    refine congrArg nI (wdx_cong (by omega) fun j hj => ?_)
    rw [← List.append_assoc, tx_in (by omega), Nat.zero_add]
  · rw [if_neg (by omega), ew]
/-- a number is read, and the token behind it -/
theorem num9 (hT : Tx (tx T) T.length inp M) (hn : 700 < n) {a b v : Nat} {tk2 R2 : List Nat} {k2 w2 : Nat} {sp : List Nat} (e : T = A ++ tk ++ sp ++ (tk2 ++ R2)) (hR : R = sp ++ (tk2 ++ R2)) (hs : sp = [] ∨ sp = [32]) (hd : Rd9 A tk R 5 w rd) (h3 : tk.length ≤ 3) (hv : vl (tx tk) 0 tk.length = v) (ha : a ≤ v) (hb : v ≤ b) (hb2 : b < 2 ^ 30) (hk : Tok tk2 R2 k2 w2) : ∃ rd', f_X4_readNumber n rd 600 inp (nI a) (nI b) = some (rd', 1) ∧ rd'.1 10 = nI v ∧ Rd9 (A ++ tk ++ sp) tk2 R2 k2 w2 rd' ∧ (∀ j, j < 5 ∨ j = 9 ∨ 10 < j → rd'.1 j = rd.1 j) := by
  obtain ⟨d6, d7, d5, d8, hk5⟩ := hd
  obtain ⟨hne, hdg⟩ : tk ≠ [] ∧ ∀ c ∈ tk, kdc c = 5 := by
    rcases hk5 with ⟨z, _⟩ | ⟨z, _⟩ | ⟨z, _⟩ | ⟨_, z1, z2, _⟩
    · omega
    · omega
    · omega
    · exact ⟨z1, z2⟩
  have h600 := hT.1
  have hlen : A.length + tk.length ≤ T.length := by
    rw [e]
    simp only [List.length_append]
    omega
  have hB : ∀ j, j < tk.length → tx T (A.length + j) = tx tk j := fun j hj => by
    rw [e, List.append_assoc (A ++ tk)]
    exact tx_in hj
  have hdig : ∀ j, A.length ≤ j → j < A.length + tk.length → 48 ≤ tx T j ∧ tx T j ≤ 57 := fun j h1 h2 => by
    have e9 := hB (j - A.length) (by omega)
    rw [show A.length + (j - A.length) = j by omega] at e9
    rw [e9]
    refine kdc_5 (hdg _ ?_)
    unfold tx
    rw [List.getD_eq_getElem?_getD, List.getElem?_eq_getElem (show j - A.length < tk.length by omega)]
    exact List.getElem_mem _
  have q := c_digits (n := n) (rd := rd) (a := a) (b := b) hT (s := A.length) (e := A.length + tk.length) (by omega) hlen (by omega) d7 hdig tk.length 0 n (by omega) (by omega)
  have ev : vl (tx T) A.length (A.length + tk.length - A.length) = v := by
    rw [Nat.add_sub_cancel_left, ← hv]
    exact vl_cong fun j hj => by rw [hB j hj, Nat.zero_add]
  rw [ev] at q
  obtain ⟨rd', a1, a2, a3, a4⟩ := adv9 (rd := sI rd 10 (nI v)) (A := A ++ tk) (sp := sp) (tk := tk2) (R := R2) (k := k2) (w := w2) hT hn e hs hk (by rw [sI_o (by decide), d7, List.length_append])
  refine ⟨rd', ?_, ?_, a2, fun j hj => ?_⟩
  · have hlt : (nI (A.length + tk.length) - nI A.length) = nI tk.length := by rw [pk_sub (by omega), Nat.add_sub_cancel_left]
    have q' : l_X4_readNumber_35 n 600 inp (nI a) (nI b) n rd (0 : Int32) (nI A.length) = j_X4_readNumber_68 n 600 inp (nI a) (nI b) rd (nI v) := q
    unfold f_X4_readNumber
    rw [d5, if_pos (show nI 5 = (5 : Int32) from rfl), d6, d7, hlt, if_pos (show nI tk.length ≤ (3 : Int32) from nI_le (a := tk.length) (b := 3) h3 (by decide)), eLet, q']
    unfold j_X4_readNumber_68
    rw [if_neg (nI_nlt ha (by omega)), if_pos (nI_le hb (by omega)), eLet, a1, ebnd]
  · rw [a3 10 (by omega), sI_s]
  · rw [a3 j (by omega), sI_o (by omega)]
/-- a semicolon is read, and the token behind it -/
theorem semi9 (hT : Tx (tx T) T.length inp M) (hn : 700 < n) {tk2 R2 : List Nat} {k2 w2 : Nat} (e : T = A ++ [59] ++ [] ++ (tk2 ++ R2)) (hd : Rd9 A [59] R 3 w rd) (hk : Tok tk2 R2 k2 w2) : ∃ rd', f_X4_readSemicolon n rd 600 inp = some (rd', 1) ∧ Rd9 (A ++ [59] ++ []) tk2 R2 k2 w2 rd' ∧ (∀ j, j < 5 ∨ 8 < j → rd'.1 j = rd.1 j) := by
  obtain ⟨d6, d7, d5, d8, hk5⟩ := hd
  obtain ⟨rd', a1, a2, a3, a4⟩ := adv9 (rd := rd) (A := A ++ [59]) (sp := []) hT hn e (Or.inl rfl) hk (by rw [d7, List.length_append])
  refine ⟨rd', ?_, a2, a3⟩
  unfold f_X4_readSemicolon
  rw [d5, if_pos (show nI 3 = (3 : Int32) from rfl), a1, ebnd]
end TOK9
