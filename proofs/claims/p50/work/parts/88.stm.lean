/-! the statements of the text that the law makes -/
theorem kdR_c (c : Nat) (R : List Nat) : kdR ([c] ++ R) = kdc c := rfl
def Wl (i : Nat) : List Nat := sLst (nI i)
theorem W_ok : ∀ i : Fin 12, i.val ≠ 0 → Wl i.val ≠ [] ∧ (∀ c ∈ Wl i.val, kdc c = 4) ∧ wdx (tx (Wl i.val)) 0 (Wl i.val).length = i.val := by decide +kernel
theorem tokW {i : Nat} (h0 : i ≠ 0) (hi : i < 12) {R : List Nat} (hR : kdR R ≠ 4) : Tok (Wl i) R 4 i := by
  obtain ⟨a, b, c⟩ := W_ok ⟨i, hi⟩ h0
  exact Or.inr (Or.inr (Or.inl ⟨rfl, a, b, hR, c.symm⟩))
theorem num_ok : ∀ v : Fin 101, sx_num v.val ≠ [] ∧ (sx_num v.val).length ≤ 3 ∧ (∀ c ∈ sx_num v.val, kdc c = 5) ∧ vl (tx (sx_num v.val)) 0 (sx_num v.val).length = v.val := by decide +kernel
theorem tokN {v : Nat} (hv : v ≤ 100) {R : List Nat} (hR : kdR R ≠ 5) : Tok (sx_num v) R 5 0 := by
  obtain ⟨a, b, c, d⟩ := num_ok ⟨v, by omega⟩
  exact Or.inr (Or.inr (Or.inr ⟨rfl, a, c, hR, rfl⟩))
theorem tokS (R : List Nat) : Tok [59] R 3 0 := Or.inr (Or.inl ⟨rfl, rfl, rfl⟩)
theorem name_ok : ∀ p : Fin 8, kdc (112 + p.val) = 4 ∧ wdx (tx [112 + p.val]) 0 1 = 0 := by decide +kernel
theorem tokP {p : Nat} (hp : p < 8) {R : List Nat} (hR : kdR R ≠ 4) : Tok [112 + p] R 4 0 := by
  obtain ⟨a, b⟩ := name_ok ⟨p, hp⟩
  refine Or.inr (Or.inr (Or.inl ⟨rfl, by simp, fun c hc => ?_, hR, b.symm⟩))
  rw [List.mem_singleton.mp hc]
  exact a
def Rset (i v : Nat) (R : List Nat) : List Nat := Wl (i + 3) ++ ([32] ++ (sx_num v ++ ([59] ++ R)))
def Rproc (p : Nat) (R : List Nat) : List Nat := Wl 2 ++ ([32] ++ ([112 + p] ++ ([59] ++ R)))
def Rpages (P : Nat) (R : List Nat) : List Nat := Wl 1 ++ ([32] ++ (sx_num P ++ ([59] ++ R)))
def Word (o : Nat) : List Nat := Wl 8 ++ ([32] ++ (Wl o ++ ([59] ++ [])))
def procR (p : Nat) : Nat → List Nat → List Nat
  | 0, R => R
  | d + 1, R => Rproc p (procR (p + 1) d R)
theorem sl_split : sLst 15 = Wl 1 ++ [32] ∧ sLst 16 = Wl 2 ++ [32] ∧ sLst 17 = Wl 3 ++ [32] ∧ sLst 18 = [59] ++ (Wl 4 ++ [32]) ∧ sLst 19 = [59] ++ (Wl 5 ++ [32]) ∧ sLst 20 = [59] ++ (Wl 6 ++ [32]) ∧ sLst 21 = [59] ++ (Wl 7 ++ [32]) ∧ sLst 22 = Word 10 ∧ sLst 23 = Word 11 ∧ sLst 24 = Word 9 := by decide +kernel
theorem proc_front : ∀ (d p : Nat) (X : List Nat), procL p ++ procR p d X = procL (p + d) ++ X
  | 0, p, X => rfl
  | d + 1, p, X => by
    rw [show p + (d + 1) = p + 1 + d by omega, ← proc_front d (p + 1) X]
    show procL p ++ (Wl 2 ++ ([32] ++ ([112 + p] ++ ([59] ++ procR (p + 1) d X)))) = (((procL p ++ sLst 16) ++ [112 + p]) ++ [59]) ++ procR (p + 1) d X
    rw [sl_split.2.1]
    simp only [List.append_assoc]
def ordW (o : Int32) : Nat := if o = 0 then 10 else if o = 1 then 11 else 9
theorem ordW_ok (o : Int32) : sLst (ordX o) = Word (ordW o) ∧ (ordW o = 9 ∨ ordW o = 10 ∨ ordW o = 11) := by
  unfold ordX ordW
  split
  · exact ⟨sl_split.2.2.2.2.2.2.2.1, by omega⟩
  · split
    · exact ⟨sl_split.2.2.2.2.2.2.2.2.1, by omega⟩
    · exact ⟨sl_split.2.2.2.2.2.2.2.2.2, by omega⟩
theorem setup_is (P q e0 e1 e2 e3 e4 : Nat) (o : Int32) : setupL P q e0 e1 e2 e3 e4 o = Rpages P (procR 0 q (Rset 0 e0 (Rset 1 e1 (Rset 2 e2 (Rset 3 e3 (Rset 4 e4 (Word (ordW o)))))))) := by
  obtain ⟨s15, s16, s17, s18, s19, s20, s21, -⟩ := sl_split
  have hp := proc_front q 0 (Rset 0 e0 (Rset 1 e1 (Rset 2 e2 (Rset 3 e3 (Rset 4 e4 (Word (ordW o)))))))
  rw [Nat.zero_add] at hp
  have hp : procR 0 q (Rset 0 e0 (Rset 1 e1 (Rset 2 e2 (Rset 3 e3 (Rset 4 e4 (Word (ordW o))))))) = procL q ++ (Rset 0 e0 (Rset 1 e1 (Rset 2 e2 (Rset 3 e3 (Rset 4 e4 (Word (ordW o))))))) := hp
  rw [hp]
  unfold setupL bodyL headL Rpages Rset
  rw [s15, s17, s18, s19, s20, s21, (ordW_ok o).1]
  simp only [List.append_assoc]
section STM9
variable {n w : Nat} {inp rd M rr fo : OS} {T A : List Nat}
theorem gz14 {β : Type} {k : Nat} {o : Option β} (h : k < 14) : gI 14 (nI k) o = o := egN h (by decide)
theorem rs_set {i : Nat} (hi : i < 5) (h8 : rd.1 8 = nI (i + 3)) {rd1 rr1 : OS} (h : f_X4_readSetting n rd 600 inp rr = some (rd1, rr1, 1)) : f_X4_readStatement n rd 600 inp rr fo = some (rd1, rr1, fo, 1) := by
  have hi5 : i = 0 ∨ i = 1 ∨ i = 2 ∨ i = 3 ∨ i = 4 := by omega
  unfold f_X4_readStatement
  rw [h8, gz14 (by omega), gz14 (by omega)]
  rcases hi5 with rfl | rfl | rfl | rfl | rfl
  · rw [show wMap (nI (0 + 3)) = (1 : Int32) from by decide, eLet, if_neg (show ¬ ((1 : Int32).toInt < 1 ∨ 9 < (1 : Int32).toInt) from by decide), if_pos rfl, h, ebnd3, egZ1]
  · rw [show wMap (nI (1 + 3)) = (2 : Int32) from by decide, eLet, if_neg (show ¬ ((2 : Int32).toInt < 1 ∨ 9 < (2 : Int32).toInt) from by decide), if_neg (show ¬ (2 : Int32) = 1 from by decide), if_pos rfl, h, ebnd3, egZ1]
  · rw [show wMap (nI (2 + 3)) = (3 : Int32) from by decide, eLet, if_neg (show ¬ ((3 : Int32).toInt < 1 ∨ 9 < (3 : Int32).toInt) from by decide), if_neg (show ¬ (3 : Int32) = 1 from by decide), if_neg (show ¬ (3 : Int32) = 2 from by decide), if_pos rfl, h, ebnd3, egZ1]
  · rw [show wMap (nI (3 + 3)) = (4 : Int32) from by decide, eLet, if_neg (show ¬ ((4 : Int32).toInt < 1 ∨ 9 < (4 : Int32).toInt) from by decide), if_neg (show ¬ (4 : Int32) = 1 from by decide), if_neg (show ¬ (4 : Int32) = 2 from by decide), if_neg (show ¬ (4 : Int32) = 3 from by decide), if_pos rfl, h, ebnd3, egZ1]
  · rw [show wMap (nI (4 + 3)) = (5 : Int32) from by decide, eLet, if_neg (show ¬ ((5 : Int32).toInt < 1 ∨ 9 < (5 : Int32).toInt) from by decide), if_neg (show ¬ (5 : Int32) = 1 from by decide), if_neg (show ¬ (5 : Int32) = 2 from by decide), if_neg (show ¬ (5 : Int32) = 3 from by decide), if_neg (show ¬ (5 : Int32) = 4 from by decide), if_pos rfl, h, ebnd3, egZ1]
/-- every, base, fade, patience, appeal -/
theorem set9 (hT : Tx (tx T) T.length inp M) (hn : 700 < n) {i v : Nat} {tk2 R2 : List Nat} {k2 w2 : Nat} (e : T = A ++ Rset i v (tk2 ++ R2)) (hi : i < 5) (hv : v ≤ 100) (h1 : lo5 i ≤ v) (h2 : v ≤ hi5 i) {R : List Nat} (hd : Rd9 A (Wl (i + 3)) R 4 (i + 3) rd) (hw : w < 64) (h11 : rd.1 11 = nI w) (hf : fst1 w i = true) (hk : Tok tk2 R2 k2 w2) : ∃ rd1 rd2 A2, f_X4_readStatement n rd 600 inp rr fo = some (rd1, sI rr (i + 2) (nI v), fo, 1) ∧ f_X4_readSemicolon n rd1 600 inp = some (rd2, 1) ∧ T = A2 ++ (tk2 ++ R2) ∧ Rd9 A2 tk2 R2 k2 w2 rd2 ∧ rd2.1 11 = nI (w ||| 2 ^ i) := by
  obtain ⟨d6, d7, d5, d8, hk4⟩ := hd
  obtain ⟨n1, n2, n3, n4⟩ := num_ok ⟨v, by omega⟩
  obtain ⟨l1, l2, l3, l4⟩ := lohi ⟨i, hi⟩
  have hfi := c_first (n := n) (rd := rd) (show i < 6 by omega) hw d8 h11
  rw [hf] at hfi
  obtain ⟨ra, a1, a2, a3, a4⟩ := adv9 (rd := sI rd 11 (nI (w ||| 2 ^ i))) (A := A ++ Wl (i + 3)) (sp := [32]) (tk := sx_num v) (R := [59] ++ (tk2 ++ R2)) (k := 5) (w := 0) hT hn (by rw [e]; unfold Rset; simp only [List.append_assoc]) (Or.inr rfl) (tokN hv (by rw [kdR_c]; decide)) (by rw [sI_o (by decide), d7, List.length_append])
  obtain ⟨rb, b1, b2, b3, b4⟩ := num9 (A := A ++ Wl (i + 3) ++ [32]) (tk := sx_num v) (rd := ra) (sp := []) (tk2 := [59]) (R2 := tk2 ++ R2) (k2 := 3) (w2 := 0) (w := 0) (a := lo5 i) (b := hi5 i) (v := v) hT hn (by rw [e]; unfold Rset; simp only [List.append_assoc, List.nil_append]) rfl (Or.inl rfl) a2 n2 n4 h1 h2 l4 (tokS _)
  obtain ⟨rc, c1, c2, c3⟩ := semi9 (A := A ++ Wl (i + 3) ++ [32] ++ sx_num v ++ []) (rd := rb) (tk2 := tk2) (R2 := R2) hT hn (by rw [e]; unfold Rset; simp only [List.append_assoc, List.nil_append]) b3 hk
  refine ⟨rb, rc, _, rs_set hi d8 ?_, c1, ?_, c2, ?_⟩
  · unfold f_X4_readSetting
    rw [hfi, ebnd2, if_neg (show ¬ bI true = 0 from by decide), a1, ebnd, show (sI rd 11 (nI (w ||| 2 ^ i))).1 8 = nI (i + 3) from d8, gz14 (by omega), gz14 (by omega), l1, l2, b1, ebnd2, if_neg (show ¬ (1 : Int32) = 0 from by decide), b2, c_set5 hi, ebnd]
  · rw [e]
    unfold Rset
    simp only [List.append_assoc, List.nil_append]
  · rw [c3 11 (by omega), b4 11 (by omega), a3 11 (by omega), sI_s]
/-- order -/
theorem ord9 (hT : Tx (tx T) T.length inp M) (hn : 700 < n) {o : Nat} (e : T = A ++ Word o) (ho : o = 9 ∨ o = 10 ∨ o = 11) {R : List Nat} (hd : Rd9 A (Wl 8) R 4 8 rd) (hw : w < 64) (h11 : rd.1 11 = nI w) (hf : fst1 w 5 = true) : ∃ rd1 rd2 v, v ≤ 2 ∧ f_X4_readStatement n rd 600 inp rr fo = some (rd1, rr, sI fo 1 (nI v), 1) ∧ f_X4_readSemicolon n rd1 600 inp = some (rd2, 1) ∧ rd2.1 5 = 0 := by
  obtain ⟨d6, d7, d5, d8, hk4⟩ := hd
  have hfi := c_first (n := n) (rd := rd) (show 5 < 6 by omega) hw d8 h11
  rw [hf] at hfi
  obtain ⟨ra, a1, a2, a3, a4⟩ := adv9 (rd := sI rd 11 (nI (w ||| 2 ^ 5))) (A := A ++ Wl 8) (sp := [32]) (tk := Wl o) (R := [59] ++ []) (k := 4) (w := o) hT hn (by rw [e]; unfold Word; simp only [List.append_assoc]) (Or.inr rfl) (tokW (by omega) (by omega) (by decide)) (by rw [sI_o (by decide), d7, List.length_append])
  obtain ⟨rb, b1, b2, b3, b4⟩ := adv9 (rd := ra) (A := A ++ Wl 8 ++ [32] ++ Wl o) (sp := []) (tk := [59]) (R := []) (k := 3) (w := 0) hT hn (by rw [e]; unfold Word; simp only [List.append_assoc, List.nil_append]) (Or.inl rfl) (tokS _) (by rw [a2.2.1, ← List.length_append])
  obtain ⟨rc, c1, c2, c3⟩ := semi9 (A := A ++ Wl 8 ++ [32] ++ Wl o ++ []) (rd := rb) (tk2 := []) (R2 := []) (k2 := 0) (w2 := 0) hT hn (by rw [e]; unfold Word; simp only [List.append_assoc, List.nil_append, List.append_nil]) b2 (Or.inl ⟨rfl, rfl, rfl, rfl⟩)
  have h8a : ra.1 8 = nI o := a2.2.2.2.1
  have ord : ∃ v, v ≤ 2 ∧ f_X4_readOrder n rd 600 inp fo = some (rb, sI fo 1 (nI v), 1) := by
    unfold f_X4_readOrder
    rw [hfi, ebnd2, if_neg (show ¬ bI true = 0 from by decide), a1, ebnd, h8a, gz14 (by omega), gz14 (by omega)]
    rcases ho with rfl | rfl | rfl
    · rw [show wMap (nI 9) = (10 : Int32) from by decide, eLet, if_neg (show ¬ ((10 : Int32).toInt < 10 ∨ 12 < (10 : Int32).toInt) from by decide), if_pos rfl, eLet, b1, ebnd]
      exact ⟨0, by omega, rfl⟩
    · rw [show wMap (nI 10) = (11 : Int32) from by decide, eLet, if_neg (show ¬ ((11 : Int32).toInt < 10 ∨ 12 < (11 : Int32).toInt) from by decide), if_neg (show ¬ (11 : Int32) = 10 from by decide), if_pos rfl, eLet, b1, ebnd]
      exact ⟨1, by omega, rfl⟩
    · rw [show wMap (nI 11) = (12 : Int32) from by decide, eLet, if_neg (show ¬ ((12 : Int32).toInt < 10 ∨ 12 < (12 : Int32).toInt) from by decide), if_neg (show ¬ (12 : Int32) = 10 from by decide), if_neg (show ¬ (12 : Int32) = 11 from by decide), eLet, b1, ebnd]
      exact ⟨2, by omega, rfl⟩
  obtain ⟨v, hv, hord⟩ := ord
  refine ⟨rb, rc, v, hv, ?_, c1, c2.2.2.1⟩
  unfold f_X4_readStatement
  rw [d8, gz14 (by omega), gz14 (by omega), show wMap (nI 8) = (9 : Int32) from by decide, eLet, if_neg (show ¬ ((9 : Int32).toInt < 1 ∨ 9 < (9 : Int32).toInt) from by decide), if_neg (show ¬ (9 : Int32) = 1 from by decide), if_neg (show ¬ (9 : Int32) = 2 from by decide), if_neg (show ¬ (9 : Int32) = 3 from by decide), if_neg (show ¬ (9 : Int32) = 4 from by decide), if_neg (show ¬ (9 : Int32) = 5 from by decide), if_neg (show ¬ (9 : Int32) = 6 from by decide), if_neg (show ¬ (9 : Int32) = 7 from by decide), if_neg (show ¬ (9 : Int32) = 8 from by decide), hord, ebnd3, egZ1]
/-- the names told so far: one letter each -/
def Nm9 (p : Nat) (rr : OS) : Prop := rr.1 1 = nI p ∧ ∀ a, a < p → rr.2.1 7 (7 * a) = nI (112 + a) ∧ rr.2.1 7 (7 * a + 6) = nI 1
theorem named9 (hT : Tx (tx T) T.length inp M) (hn : 700 < n) {s p : Nat} (hp : p < 8) (hs : s < T.length) (hc : tx T s = 112 + p) (hN : Nm9 p rr) : ∀ (d a N : Nat), a + d = p → d < N → l_X5_processNamed_3 n 600 rr inp (nI s) (nI (s + 1)) N (nI a) = some (-1)
  | 0, a, N, hd, hN9 => by
    obtain ⟨N', rfl⟩ : ∃ N', N = N' + 1 := ⟨N - 1, by omega⟩
    obtain rfl : a = p := by omega
    show s_X5_processNamed_3 n 600 rr inp (nI s) (nI (s + 1)) _ (nI a) = _
    unfold s_X5_processNamed_3
    rw [hN.1, if_pos (Int32.le_refl _)]
  | d + 1, a, N, hd, hN9 => by
    obtain ⟨N', rfl⟩ : ∃ N', N = N' + 1 := ⟨N - 1, by omega⟩
    have h600 := hT.1
    obtain ⟨q1, q2⟩ := hN.2 a (by omega)
    have g6 : f_X6_get n (7 : Int32) 56 (rr.2.1 7) (nI a) (6 : Int32) = some (rr.2.1 7 (7 * a + 6)) := tget (cc := 7) (z := 56) (v := a) (j := 6) (7 * a + 6) (by omega) (by omega) (by decide)
    have g0 : f_X6_get n (7 : Int32) 56 (rr.2.1 7) (nI a) (nI s - nI s) = some (rr.2.1 7 (7 * a)) := by
      rw [pk_sub (Nat.le_refl s), Nat.sub_self]
      exact tget (cc := 7) (z := 56) (v := a) (j := 0) (7 * a) (by omega) (by omega) (by decide)
    have hi : f_X5_isNamed n rr 600 inp (nI a) (nI s) (nI (s + 1)) = some 0 := by
      obtain ⟨n', rfl⟩ : ∃ n', n = n' + 1 := ⟨n - 1, by omega⟩
      unfold f_X5_isNamed
      rw [g6, ebnd, q2, pk_sub (by omega), show s + 1 - s = 1 by omega, if_pos rfl]
      show s_X5_isNamed_22 (n' + 1) 600 rr inp (nI a) (nI s) (nI (s + 1)) _ (nI s) = _
      unfold s_X5_isNamed_22
      rw [if_neg (nI_ge (by omega) (by omega)), g0, ebnd, c_at hT (by omega), ebnd, if_pos hs, hc, q1, if_neg (fun z => by
        have := nI_inj (by omega) (by omega) z
        omega)]
    show s_X5_processNamed_3 n 600 rr inp (nI s) (nI (s + 1)) _ (nI a) = _
    unfold s_X5_processNamed_3
    rw [hN.1, if_neg (nI_ge (by omega) (by omega)), hi, ebnd, if_pos rfl, eLet, nI_1]
    exact named9 hT hn hp hs hc hN d (a + 1) N' (by omega) (by omega)
/-- process -/
theorem proc9 (hT : Tx (tx T) T.length inp M) (hn : 700 < n) {p : Nat} {tk2 R2 : List Nat} {k2 w2 : Nat} (hp : p < 8) (e : T = A ++ Rproc p (tk2 ++ R2)) {R : List Nat} (hd : Rd9 A (Wl 2) R 4 2 rd) (hN : Nm9 p rr) (hk : Tok tk2 R2 k2 w2) : ∃ rd1 rd2 rr2 A2, f_X4_readStatement n rd 600 inp rr fo = some (rd1, rr2, fo, 1) ∧ f_X4_readSemicolon n rd1 600 inp = some (rd2, 1) ∧ T = A2 ++ (tk2 ++ R2) ∧ Rd9 A2 tk2 R2 k2 w2 rd2 ∧ rd2.1 11 = rd.1 11 ∧ Nm9 (p + 1) rr2 ∧ ∀ j, j ≠ 1 → rr2.1 j = rr.1 j := by
  obtain ⟨d6, d7, d5, d8, hk4⟩ := hd
  have h600 := hT.1
  obtain ⟨ra, a1, a2, a3, a4⟩ := adv9 (rd := rd) (A := A ++ Wl 2) (sp := [32]) (tk := [112 + p]) (R := [59] ++ (tk2 ++ R2)) (k := 4) (w := 0) hT hn (by rw [e]; unfold Rproc; simp only [List.append_assoc]) (Or.inr rfl) (tokP hp (by rw [kdR_c]; decide)) (by rw [d7, List.length_append])
  obtain ⟨rb, b1, b2, b3, b4⟩ := adv9 (rd := ra) (A := A ++ Wl 2 ++ [32] ++ [112 + p]) (sp := []) (tk := [59]) (R := tk2 ++ R2) (k := 3) (w := 0) hT hn (by rw [e]; unfold Rproc; simp only [List.append_assoc, List.nil_append]) (Or.inl rfl) (tokS _) (by rw [a2.2.1, ← List.length_append])
  obtain ⟨rc, c1, c2, c3⟩ := semi9 (A := A ++ Wl 2 ++ [32] ++ [112 + p] ++ []) (rd := rb) (tk2 := tk2) (R2 := R2) hT hn (by rw [e]; unfold Rproc; simp only [List.append_assoc, List.nil_append]) b2 hk
  obtain ⟨f6, f7, f5, f8, -⟩ := a2
  have eT : T = (A ++ Wl 2 ++ [32]) ++ (112 + p) :: ([59] ++ (tk2 ++ R2)) := by
    rw [e]
    unfold Rproc
    simp only [List.append_assoc, List.cons_append, List.nil_append]
  obtain ⟨s, es⟩ : ∃ s, s = (A ++ Wl 2 ++ [32]).length := ⟨_, rfl⟩
  rw [← es] at f6 f7
  have f7 : ra.1 7 = nI (s + 1) := f7
  have hs : s < T.length := by
    rw [eT, List.length_append, List.length_cons, ← es]
    omega
  have hc : tx T s = 112 + p := by
    rw [eT, es, tx_at]
  have hnm := named9 (n := n) (rr := rr) hT hn hp hs hc hN p 0 n (by omega) (by omega)
  obtain ⟨r2, g1, g2, g3, g4, g5, g6⟩ := c_addProcess (n := n) (rr := rr) (NP := p) hT (s := s) (e := s + 1) (by omega) (by omega) (by omega) hp hN.1 hn
  have hname : f_X4_isName n ra = some 1 := by
    unfold f_X4_isName
    rw [f5, if_pos (show nI 4 = (4 : Int32) from rfl), f8, gz14 (by omega), show gI 14 (0 : Int32) _ = _ from egN (k := 0) (by decide) (by decide), if_pos (show nI 0 = (0 : Int32) from rfl), f6, f7, pk_sub (by omega), show s + 1 - s = 1 by omega, if_neg (show ¬ (6 : Int32) < nI 1 from by decide)]
  have hrn : f_X4_readNewProcess n rd 600 inp rr = some (rb, r2, 1) := by
    unfold f_X4_readNewProcess
    rw [hN.1, if_pos (show nI p < (8 : Int32) from nI_lt (a := p) (b := 8) hp (by decide)), a1, ebnd, hname, ebnd, if_neg (show ¬ (1 : Int32) = 0 from by decide), f6, f7]
    unfold f_X5_processNamed
    have hnm' : l_X5_processNamed_3 n 600 rr inp (nI s) (nI (s + 1)) n (0 : Int32) = some (-1) := hnm
    rw [hnm', ebnd, if_pos rfl, g1, ebnd, b1, ebnd]
  refine ⟨rb, rc, r2, _, ?_, c1, ?_, c2, ?_, ⟨g2, fun a ha => ?_⟩, g3⟩
  · unfold f_X4_readStatement
    rw [d8, gz14 (by omega), gz14 (by omega), show wMap (nI 2) = (6 : Int32) from by decide, eLet, if_neg (show ¬ ((6 : Int32).toInt < 1 ∨ 9 < (6 : Int32).toInt) from by decide), if_neg (show ¬ (6 : Int32) = 1 from by decide), if_neg (show ¬ (6 : Int32) = 2 from by decide), if_neg (show ¬ (6 : Int32) = 3 from by decide), if_neg (show ¬ (6 : Int32) = 4 from by decide), if_neg (show ¬ (6 : Int32) = 5 from by decide), if_pos rfl, hrn, ebnd3, egZ1]
  · rw [e]
    unfold Rproc
    simp only [List.append_assoc, List.nil_append]
  · rw [c3 11 (by omega), b3 11 (by omega), a3 11 (by omega)]
  · by_cases c : a = p
    · subst c
      refine ⟨?_, ?_⟩
      · have := g4 0 (by omega)
        rw [Nat.add_zero, Nat.add_zero, hc] at this
        exact this
      · rw [g5, show s + 1 - s = 1 by omega]
    · obtain ⟨q1, q2⟩ := hN.2 a (by omega)
      exact ⟨(g6 _ (by omega)).trans q1, (g6 _ (by omega)).trans q2⟩
/-- pages -/
theorem pages9 (hT : Tx (tx T) T.length inp M) (hn : 700 < n) {P : Nat} {tk2 R2 : List Nat} {k2 w2 : Nat} (e : T = [] ++ Rpages P (tk2 ++ R2)) (h1 : 4 ≤ P) (h2 : P ≤ 64) (h7 : rd.1 7 = 0) (hk : Tok tk2 R2 k2 w2) : ∃ ra rd2 rr2 fo2 A2, f_X4_advance n rd 600 inp = some ra ∧ f_X4_readPages n ra 600 inp rr fo = some (rd2, rr2, fo2, 1) ∧ T = A2 ++ (tk2 ++ R2) ∧ Rd9 A2 tk2 R2 k2 w2 rd2 ∧ rd2.1 11 = rd.1 11 ∧ (rr2.1 0 = nI P ∧ rr2.1 1 = nI 0 ∧ rr2.1 2 = nI 5 ∧ rr2.1 3 = nI 10 ∧ rr2.1 4 = nI 20 ∧ rr2.1 5 = nI 3 ∧ rr2.1 6 = nI 10) ∧ RR P 0 2100 0 0 0 0 fo2 row0 := by
  obtain ⟨n1, n2, n3, n4⟩ := num_ok ⟨P, by omega⟩
  obtain ⟨ra, a1, a2, a3, a4⟩ := adv9 (rd := rd) (A := []) (sp := []) (tk := Wl 1) (R := [32] ++ (sx_num P ++ ([59] ++ (tk2 ++ R2)))) (k := 4) (w := 1) hT hn (by rw [e]; unfold Rpages; simp only [List.append_assoc, List.nil_append]) (Or.inl rfl) (tokW (by omega) (by omega) (by rw [kdR_c]; decide)) h7
  obtain ⟨f6, f7, f5, f8, -⟩ := a2
  obtain ⟨rb, b1, b2, b3, b4⟩ := adv9 (rd := ra) (A := Wl 1) (sp := [32]) (tk := sx_num P) (R := [59] ++ (tk2 ++ R2)) (k := 5) (w := 0) hT hn (by rw [e]; unfold Rpages; simp only [List.append_assoc, List.nil_append]) (Or.inr rfl) (tokN (by omega) (by rw [kdR_c]; decide)) (by rw [f7]; exact congrArg nI (Nat.zero_add _))
  obtain ⟨rc, c1, c2, c3, c4⟩ := num9 (A := Wl 1 ++ [32]) (tk := sx_num P) (rd := rb) (sp := []) (tk2 := [59]) (R2 := tk2 ++ R2) (k2 := 3) (w2 := 0) (w := 0) (a := 4) (b := 64) (v := P) hT hn (by rw [e]; unfold Rpages; simp only [List.append_assoc, List.nil_append]) rfl (Or.inl rfl) b2 n2 n4 h1 h2 (by decide) (tokS _)
  obtain ⟨rd2, d1, d2, d3⟩ := semi9 (A := Wl 1 ++ [32] ++ sx_num P ++ []) (rd := rc) (tk2 := tk2) (R2 := R2) hT hn (by rw [e]; unfold Rpages; simp only [List.append_assoc, List.nil_append]) c3 hk
  obtain ⟨r', g1, g2⟩ := c_rbegin (n := n) (nI P) rr
  obtain ⟨co, k1, k2', k3, k4, k5, k6⟩ := c_begin (n := n) (P := P) (by omega) hn fo
  refine ⟨ra, rd2, r', co, _, a1, ?_, ?_, d2, ?_, g2, RR_new h2 k2' k3 k4 k5 k6 fun _ _ => rfl⟩
  · have c1' : f_X4_readNumber n rb 600 inp (wLow (1 : Int32)) (wHigh (1 : Int32)) = some (rc, 1) := by
      rw [show wLow (1 : Int32) = nI 4 from by decide, show wHigh (1 : Int32) = nI 64 from by decide]
      exact c1
    have g11 : ∀ {β : Type} (o : Option β), gI 14 (1 : Int32) o = o := fun o => egN (k := 1) (by decide) (by decide)
    unfold f_X4_readPages
    rw [f8, gz14 (by omega), g11, if_pos (show nI 1 = (1 : Int32) from rfl), b1, ebnd, g11, g11, c1', ebnd2, if_neg (show ¬ (1 : Int32) = 0 from by decide), c2, g1, ebnd, k1, ebnd, d1, ebnd2, egZ1]
  · rw [e]
    unfold Rpages
    simp only [List.append_assoc, List.nil_append]
  · rw [d3 11 (by omega), c4 11 (by omega), b3 11 (by omega), a3 11 (by omega)]
end STM9
