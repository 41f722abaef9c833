/-! a process printed: its name, its numbers, its loans -/
def LKo (D : Nat) (x inp ru no rd : OS) (pa : PS) (so : Option OS) (o : Option (OS × (Nat → Int64) × Int32)) (o2 : Option (OS × Int32)) : Prop := ∃ ou' p3 k M' b, o = some (ou', p3, k) ∧ o2 = some (M', b) ∧ RX D x inp ou' ru no rd pa M' so ∧ M'.1 0 = k ∧ (k = 0 → p3 0 = b.toInt64)
theorem cmp_le (a b : Int64) : (lg_cmp a b ≤ 0) ↔ a ≤ b := by
  unfold lg_cmp
  rw [fa_le64]
  by_cases q : a > b
  · rw [if_pos q]
    have q2 : b < a := q
    rw [fa_lt64] at q2
    exact ⟨fun z => absurd z (by decide), fun z => by omega⟩
  · rw [if_neg q]
    have q2 : ¬ b < a := q
    rw [fa_lt64] at q2
    by_cases q3 : a = b
    · rw [if_pos q3]
      exact ⟨fun _ => by omega, fun _ => by decide⟩
    · rw [if_neg q3]
      exact ⟨fun _ => by omega, fun _ => by decide⟩
theorem shrL5 {a : Nat} (h : a < 2 ^ 62) : lN a >>> ((5 : Int32).toInt64 &&& 63) = lN (a / 32) := by
  apply (fa_eq64 _ _).mpr
  have e : (lN a >>> ((5 : Int32).toInt64 &&& 63)).toInt = ((lN a).toBitVec.sshiftRight (((5 : Int32).toInt64 &&& 63).toBitVec.smod 64).toNat).toInt := rfl
  have k : (((5 : Int32).toInt64 &&& 63).toBitVec.smod 64).toNat = 5 := by decide
  rw [e, k, BitVec.toInt_sshiftRight, Int.shiftRight_eq_div_pow]
  show (lN a).toInt / ((2 ^ 5 : Nat) : Int) = _
  rw [pk_lT (by omega), pk_lT (by omega)]
  omega
/-- the letters 0 .. j - 1, said one after another -/
def mNm (n : Nat) (x : Nat → Nat) : Nat → OS → Option OS
  | 0, M => some M
  | j + 1, M => bnd (mNm n x j M) (fun t => f_X9_says n t (nI (x j)))
section PRINT3
variable {P NP D D2 K T LC CC FC E Bs F Pt Ap n : Nat} {c x inp ou ru no rd M : OS} {pa : PS} {so : Option OS} {sv : Value} {p3 : Nat → Int64} {m : Nat → Int32}
theorem m_saysName {z : Nat → Nat} : ∀ (j N : Nat) (M : OS), 1 ≤ j → j ≤ 6 → j ≤ N → (∀ i, i < j → 97 ≤ z i ∧ z i ≤ 122) → f_X9_saysName n N M (lN (sp z j)) = mNm n z j M
  | 0, _, _, h, _, _, _ => absurd h (by omega)
  | 1, N, M, _, _, hN, hz => by
    obtain ⟨N', rfl⟩ : ∃ N', N = N' + 1 := ⟨N - 1, by omega⟩
    have h0 := hz 0 (by omega)
    have hs : sp z 1 = z 0 - 96 := by
      show 32 * 0 + (z 0 - 96) = _
      omega
    have hd : ((lN (z 0 - 96) &&& (31 : Int64)).toInt32 + (96 : Int32)) = nI (z 0) := by
      rw [show (31 : Int64) = lN (2 ^ 5 - 1) from rfl, fb_maskL, lN_i, Nat.mod_eq_of_lt (by omega), show nI (z 0 - 96) + (96 : Int32) = nI (z 0 - 96 + 96) from nI_add _ 96, show z 0 - 96 + 96 = z 0 by omega]
    rw [hs]
    show (if (lg_cmp (lN (z 0 - 96)) (31 : Int64)) ≤ 0 then f_X9_says n M ((lN (z 0 - 96) &&& (31 : Int64)).toInt32 + (96 : Int32)) else _) = bnd (some M) (fun t => f_X9_says n t (nI (z 0)))
    rw [if_pos ((cmp_le _ _).mpr (show lN (z 0 - 96) ≤ (31 : Int64) from (lN_le (b := 31) (by omega) (by decide)).mpr (by omega))), hd, ebnd]
  | j + 2, N, M, _, h6, hN, hz => by
    obtain ⟨N', rfl⟩ : ∃ N', N = N' + 1 := ⟨N - 1, by omega⟩
    have h0 := hz (j + 1) (by omega)
    have hsp := sp_pos (x := z) (k := j + 1) (fun i hi => hz i (by omega)) (by omega)
    have hlt := sp_lt (x := z) (k := j + 1) (fun i hi => hz i (by omega))
    have l3 : 32 ^ (j + 1) ≤ 32 ^ 5 := Nat.pow_le_pow_right (by decide) (by omega)
    have hs : sp z (j + 2) = 32 * sp z (j + 1) + (z (j + 1) - 96) := rfl
    have hd : ((lN (sp z (j + 2)) &&& (31 : Int64)).toInt32 + (96 : Int32)) = nI (z (j + 1)) := by
      rw [show (31 : Int64) = lN (2 ^ 5 - 1) from rfl, fb_maskL, lN_i, hs, show (32 * sp z (j + 1) + (z (j + 1) - 96)) % 2 ^ 5 = z (j + 1) - 96 by omega, show nI (z (j + 1) - 96) + (96 : Int32) = nI (z (j + 1) - 96 + 96) from nI_add _ 96, show z (j + 1) - 96 + 96 = z (j + 1) by omega]
    have hq : lN (sp z (j + 2)) >>> ((5 : Int32).toInt64 &&& 63) = lN (sp z (j + 1)) := by
      rw [shrL5 (by omega), hs, show (32 * sp z (j + 1) + (z (j + 1) - 96)) / 32 = sp z (j + 1) by omega]
    show (if (lg_cmp (lN (sp z (j + 2))) (31 : Int64)) ≤ 0 then _ else bnd (f_X9_saysName n N' M (lN (sp z (j + 2)) >>> ((5 : Int32).toInt64 &&& 63))) (fun (t : OS) => f_X9_says n t ((lN (sp z (j + 2)) &&& (31 : Int64)).toInt32 + (96 : Int32)))) = bnd (mNm n z (j + 1) M) (fun t => f_X9_says n t (nI (z (j + 1))))
    rw [if_neg (fun q => by have := (lN_le (b := 31) (show sp z (j + 2) < 2 ^ 31 by omega) (by decide)).mp ((cmp_le _ _).mp q); omega), hd, hq, m_saysName (j + 1) N' M (by omega) (by omega) (by omega) (fun i hi => hz i (by omega))]
theorem sayName {ln : Nat → Nat} {y : Nat → Nat → Nat} {k p : Nat} (hN : Nr ru ln y NP) (hNP : NP ≤ 8) (hp : p < NP) (h : Ok k ou M) (hk : k + 6 ≤ 1000) (hn : 100 < n) : ∃ ou' M' k', f_X5_printName n ru 1024 ou (nI p) = some ou' ∧ f_X9_saysName n 12 M (lN (sp (y p) (ln p))) = some M' ∧ Ok k' ou' M' ∧ k' ≤ k + 6 ∧ Fs M M' := by
  obtain ⟨a1, a2, a3, a4⟩ := hN p hp
  have hmin : (if nI (ln p) < (6 : Int32) then nI (ln p) else (6 : Int32)) = nI (ln p) := by
    have q := minI (a := ln p) (b := 6) (by omega) (by decide)
    rw [Nat.min_eq_left a2] at q
    exact q
  have hh := loop_inv (l := l_X5_printName_19 n 1024 ru (nI p) (nI (ln p))) (fun i s => ∃ t, mNm n (y p) i M = some t ∧ Ok (k + i) s t ∧ Fs M t) (Q := fun r => ∃ t, mNm n (y p) (ln p) M = some t ∧ Ok (k + ln p) r t ∧ Fs M t) (K := ln p) (fun N s hs => ⟨s, ?_, hs⟩) (fun N s i hi hs => Or.inl ?_) 0 n ou (by omega) (by omega) ⟨M, rfl, h, Fs.rf M⟩
  · obtain ⟨r, h1, t, h2, h3, h4⟩ := hh
    refine ⟨r, t, k + ln p, ?_, ?_, h3, by omega, h4⟩
    · unfold f_X5_printName
      rw [show f_X6_get n (7 : Int32) 56 (ru.2.1 7) (nI p) (6 : Int32) = some (ru.2.1 7 (7 * p + 6)) from tget (n := n) (cc := 7) (z := 56) (v := p) (j := 6) (7 * p + 6) (by omega) (by omega) (by decide), ebnd, a4, hmin, eLet]
      exact h1
    · rw [m_saysName (ln p) 12 M a1 a2 (by omega) (fun i hi => ⟨(a3 i hi).1, (a3 i hi).2.1⟩)]
      exact h2
  · show s_X5_printName_19 n 1024 ru (nI p) (nI (ln p)) _ s (nI (ln p)) = _
    unfold s_X5_printName_19
    rw [if_pos (Int32.le_refl _)]
  · obtain ⟨t, b1, b2, b3⟩ := hs
    obtain ⟨q1, q2, q3⟩ := a3 i hi
    obtain ⟨o1, t1, c1, c2, c3, c4⟩ := say1 (n := n) (b := y p i) b2 (by omega) (by omega)
    refine ⟨o1, ⟨t1, ?_, c3, b3.tr c4⟩, ?_⟩
    · show bnd (mNm n (y p) i M) _ = _
      rw [b1, ebnd, c2]
    · show s_X5_printName_19 n 1024 ru (nI p) (nI (ln p)) _ s (nI i) = _
      unfold s_X5_printName_19
      rw [if_neg (nI_ge hi (by omega)), show f_X6_get n (7 : Int32) 56 (ru.2.1 7) (nI p) (nI i) = some (ru.2.1 7 (7 * p + i)) from tget (n := n) (cc := 7) (z := 56) (v := p) (j := i) (7 * p + i) (by omega) (by omega) (by decide), ebnd, q3, c1, ebnd, eLet, nI_1]
/-- a blank and a number -/
theorem saySp {k d W : Nat} (h : Ok k ou M) (hW : 1 ≤ W) (hW9 : W ≤ 9) (hd : d < 10 ^ W) (hk : k + 1 + W ≤ 1000) (hn : 100 < n) : ∃ ou' M' k', bnd (f_X1_put n 1024 ou (32 : Int32)) (fun t => f_X1_putNumber n 1024 t (nI d)) = some ou' ∧ f_X9_saysSpaced n M (nI d) = some M' ∧ Ok k' ou' M' ∧ k' ≤ k + 1 + W ∧ Fs M M' := by
  obtain ⟨o1, t1, c1, c2, c3, c4⟩ := say1 (n := n) (b := 32) h (by omega) (by decide)
  obtain ⟨o2, t2, k2, d1, d2, d3, d4, d5⟩ := sayNum (n := n) c3 hW hW9 hd (by omega) hn
  refine ⟨o2, t2, k2, ?_, ?_, d3, d4, c4.tr d5⟩
  · rw [show (32 : Int32) = nI 32 from rfl, c1, ebnd, d1]
  · unfold f_X9_saysSpaced
    rw [show (32 : Int32) = nI 32 from rfl, c2, ebnd, d2, ebnd]
theorem sayLoans {k0 p : Nat} (hR : R0 P NP D K T LC CC FC no (M.2.1 9)) (hP : M.1 1 = nI P) (hD : D ≤ 100000) (hp : p < 8) (h : Ok k0 ou M) (hk : k0 ≤ 14) (hn : 100 < n) : ∃ ou' M' k', f_X2_printLoans n no 1024 ou (nI p) = some ou' ∧ l_X9_printProcess_51 n (nI p) n M 0 = some (M', nI k') ∧ Ok k' ou' M' ∧ k' ≤ 1000 ∧ Fs M M' := by
  have h80 := hR.L80
  have h64 := hR.P64
  have hh := loop_rel (l := l_X2_printLoans_2 n 1024 no (nI p)) (l2 := l_X9_printProcess_51 n (nI p)) (fun i s t => ∃ k, Ok k s t ∧ k ≤ k0 + 11 * i ∧ Fs M t) (Q := fun r r2 => ∃ k, r2 = (r2.1, nI k) ∧ Ok k r r2.1 ∧ k ≤ 1000 ∧ Fs M r2.1) (K := LC) ?_ ?_ 0 n n ou M (by omega) (by omega) (by omega) ⟨k0, h, by omega, Fs.rf M⟩
  · obtain ⟨r, ⟨M', b⟩, h1, h2, k, h3, h4, h5, h6⟩ := hh
    rw [h3] at h2
    exact ⟨r, M', k, h1, h2, h4, h5, h6⟩
  · rintro N N2 s t ⟨k, b1, b2, b3⟩
    refine ⟨s, (t, nI k), ?_, ?_, k, rfl, b1, by omega, b3⟩
    · show s_X2_printLoans_2 n 1024 no (nI p) _ s (nI LC) = _
      unfold s_X2_printLoans_2
      rw [hR.loans, if_pos (Int32.le_refl _)]
    · show s_X9_printProcess_51 n (nI p) _ t (nI LC) = _
      unfold s_X9_printProcess_51
      rw [gz6, b3.2.1 9 (by decide), hR.mloans, if_pos (Int32.le_refl _), b1.2.1]
  · rintro N N2 s t i hi ⟨k, b1, b2, b3⟩
    have i80 : i < 80 := by omega
    have e9 : t.2.1 9 = M.2.1 9 := b3.2.1 9 (by decide)
    have e1 : t.1 1 = nI P := (b3.1 1 (by decide)).trans hP
    obtain ⟨_, ⟨d, hd, hdo⟩⟩ := hR.2.2.2.2.2.1 i hi
    obtain ⟨q0, q1, q3, _⟩ := hR.1.2.2.2.2.1 i hi
    have hple := pc_le (M.2.1 9) P (nI i)
    have hc0 : s_X2_printLoans_2 n 1024 no (nI p) (l_X2_printLoans_2 n 1024 no (nI p) N) s (nI i) = l_X2_printLoans_2 n 1024 no (nI p) (N + 1) s (nI i) := rfl
    have hm0 : s_X9_printProcess_51 n (nI p) (l_X9_printProcess_51 n (nI p) N2) t (nI i) = l_X9_printProcess_51 n (nI p) (N2 + 1) t (nI i) := rfl
    by_cases ho : 0 < pc (M.2.1 9) P (nI i) ∧ M.2.1 9 (58 + 6 * i) = nI p
    · obtain ⟨o1, t1, k1, c1, c2, c3, c4, c5⟩ := saySp (n := n) (d := pc (M.2.1 9) P (nI i)) (W := 2) b1 (by decide) (by decide) (by omega) (by omega) hn
      obtain ⟨o2, t2, d1, d2, d3, d4⟩ := say1 (n := n) (b := 64) c3 (by omega) (by decide)
      obtain ⟨o3, t3, k3, f1, f2, f3, f4, f5⟩ := sayNum (n := n) (d := d) (W := 6) d3 (by decide) (by decide) (by omega) (by omega) hn
      have g9 : t3.2.1 9 = M.2.1 9 := by rw [f5.2.1 9 (by decide), d4.2.1 9 (by decide), c5.2.1 9 (by decide), e9]
      have g91 : t2.2.1 9 = M.2.1 9 := by rw [d4.2.1 9 (by decide), c5.2.1 9 (by decide), e9]
      have g1 : t3.1 1 = nI P := by rw [f5.1 1 (by decide), d4.1 1 (by decide), c5.1 1 (by decide), e1]
      obtain ⟨u1, hu1, hu2⟩ : ∃ u1, f_X1_put n 1024 s (32 : Int32) = some u1 ∧ f_X1_putNumber n 1024 u1 (nI (pc (M.2.1 9) P (nI i))) = some o1 := ob c1
      have hc : l_X2_printLoans_2 n 1024 no (nI p) (N + 1) s (nI i) = if bk (M.2.1 9) P i then bnd (f_X1_put n 1024 o3 (33 : Int32)) (fun z => l_X2_printLoans_2 n 1024 no (nI p) N z (nI (i + 1))) else l_X2_printLoans_2 n 1024 no (nI p) N o3 (nI (i + 1)) := by
        rw [← hc0]
        unfold s_X2_printLoans_2
        rw [hR.loans, if_neg (nI_ge hi (by omega)), c_isOpen hR h64 hi, ebnd, ifz, if_pos (decide_eq_true ho.1), c_isLoanOf hR hi, ebnd, ifz, ofp_one hp, if_pos (decide_eq_true ho.2), hu1, ebnd, gL1 i80, ebnd, q1, hu2, ebnd, show (64 : Int32) = nI 64 from rfl, d1, ebnd, gL2 i80, ebnd, q3, hdo, f1, ebnd, c_isBroken hR h64 hi, ebnd, ifz, eLet, nI_1]
        cases bk (M.2.1 9) P i
        · rfl
        · rfl
      have hm : l_X9_printProcess_51 n (nI p) (N2 + 1) t (nI i) = if bk (M.2.1 9) P i then bnd (f_X9_says n t3 (33 : Int32)) (fun z => l_X9_printProcess_51 n (nI p) N2 z (nI (i + 1))) else l_X9_printProcess_51 n (nI p) N2 t3 (nI (i + 1)) := by
        have hs : f_X9_saysLoan n t (nI i) = if bk (M.2.1 9) P i then f_X9_says n t3 (33 : Int32) else some t3 := by
          unfold f_X9_saysLoan
          rw [m_pagesOf e1 h64 hn, ebnd, e9, c2, ebnd, show (64 : Int32) = nI 64 from rfl, d2, ebnd, mL1 i80, ebnd, g91, hdo, f2, ebnd, m_isBroken g1 h64 hn i80, ebnd, ifz, g9]
          cases bk (M.2.1 9) P i
          · rfl
          · rw [if_pos rfl, if_pos rfl]
            cases f_X9_says n t3 (33 : Int32) <;> rfl
        rw [← hm0]
        unfold s_X9_printProcess_51
        rw [gz6, e9, hR.mloans, if_neg (nI_ge hi (by omega)), mL0 i80, ebnd, e9, if_pos ho.2, m_pagesOf e1 h64 hn, ebnd, e9, if_neg (nI_nle ho.1 (by omega)), hs]
        cases bk (M.2.1 9) P i
        · rw [if_neg (by decide), if_neg (by decide), ebnd, eLet, nI_1]
        · rw [if_pos rfl, if_pos rfl, nI_1]
          rfl
      cases hb : bk (M.2.1 9) P i with
      | false =>
        rw [hb, if_neg (by decide)] at hc hm
        exact ⟨o3, t3, ⟨k3, f3, by omega, ((b3.tr c5).tr d4).tr f5⟩, hc, hm⟩
      | true =>
        obtain ⟨o4, t4, r1, r2, r3, r4⟩ := say1 (n := n) (b := 33) f3 (by omega) (by decide)
        rw [hb, if_pos rfl, show (33 : Int32) = nI 33 from rfl, r1, ebnd] at hc
        rw [hb, if_pos rfl, show (33 : Int32) = nI 33 from rfl, r2, ebnd] at hm
        exact ⟨o4, t4, ⟨k3 + 1, r3, by omega, (((b3.tr c5).tr d4).tr f5).tr r4⟩, hc, hm⟩
    · have hc : l_X2_printLoans_2 n 1024 no (nI p) (N + 1) s (nI i) = l_X2_printLoans_2 n 1024 no (nI p) N s (nI (i + 1)) := by
        rw [← hc0]
        unfold s_X2_printLoans_2
        rw [hR.loans, if_neg (nI_ge hi (by omega)), c_isOpen hR h64 hi, ebnd, ifz, eLet, nI_1]
        by_cases q : 0 < pc (M.2.1 9) P (nI i)
        · rw [if_pos (decide_eq_true q), c_isLoanOf hR hi, ebnd, ifz, ofp_one hp, if_neg (by rw [decide_eq_false (fun z => ho ⟨q, z⟩)]; decide)]
        · rw [if_neg (by rw [decide_eq_false q]; decide)]
      have hm : l_X9_printProcess_51 n (nI p) (N2 + 1) t (nI i) = l_X9_printProcess_51 n (nI p) N2 t (nI (i + 1)) := by
        rw [← hm0]
        unfold s_X9_printProcess_51
        rw [gz6, e9, hR.mloans, if_neg (nI_ge hi (by omega)), mL0 i80, ebnd, e9]
        by_cases q : M.2.1 9 (58 + 6 * i) = nI p
        · have q2 : pc (M.2.1 9) P (nI i) = 0 := by
            rcases Nat.eq_zero_or_pos (pc (M.2.1 9) P (nI i)) with z | z
            · exact z
            · exact absurd ⟨z, q⟩ ho
          rw [if_pos q, m_pagesOf e1 h64 hn, ebnd, e9, q2, if_pos (nI_zle rfl), eLet, nI_1]
        · rw [if_neg q, eLet, nI_1]
      exact ⟨s, t, ⟨k, b1, by omega, b3⟩, hc, hm⟩
theorem lk_print (h : RXx P NP E Bs F Pt Ap T LC CC FC D x inp ou ru no rd pa M so) (hD2 : D ≤ 100000) (hn : 700 < n) (v : Int32) : LKo D x inp ru no rd pa so (f_L_printProcess n sv x 1024 ou ru no 1 p3 v) (f_X9_printProcess n M v) := by
  have hU := h.1
  have hNP : NP ≤ 8 := hU.2.2.2.2.1
  have hR := h.2.2.1.1
  have hI := h.2.2.2.1
  obtain ⟨ln, y, hNm⟩ := h.2.1
  have hNr : Nr ru ln y NP := fun p hp => by
    obtain ⟨a1, a2, a3, a4, _⟩ := hNm p hp
    exact ⟨a1, a2, a3, a4⟩
  unfold f_L_printProcess f_X8_printProcess f_X9_printProcess
  rw [c_needProcess hU, ebnd, m_isProcess hU, ebnd, m_is, ebnd2, ifz]
  cases hv : vb v NP with
  | false => exact ⟨ou, p3, 1, sI M 0 1, 0, rfl, rfl, h.rx.eqM (EqM.told M 1) (Cpy.rf no), rfl, fun z => absurd z (by decide)⟩
  | true =>
    obtain ⟨p, hp, rfl⟩ := vb_ok (by omega) hv
    have hp8 : p < 8 := by omega
    obtain ⟨⟨r, r1, r2⟩, ⟨b, b1, b2⟩⟩ := hR.2.2.2.1 p hp8
    obtain ⟨u1, u2, _⟩ := hR.1.2.2.2.1 p hp8
    have h0 : Ok 0 (sI ou 1 0) (sI (sI M 0 (bI (!true))) 40 0) := ⟨rfl, rfl, fun i hi => absurd hi (by omega)⟩
    obtain ⟨o1, t1, k1, c1, c2, c3, c4, c5⟩ := sayName (n := n) hNr hNP hp h0 (by omega) (by omega)
    obtain ⟨o2, t2, k2, d1, d2, d3, d4, d5⟩ := saySp (n := n) (d := r) (W := 3) c3 (by decide) (by decide) (by omega) (by omega) (by omega)
    obtain ⟨o3, t3, k3, f1, f2, f3, f4, f5⟩ := saySp (n := n) (d := b) (W := 3) d3 (by decide) (by decide) (by omega) (by omega) (by omega)
    have hF : Fs (sI (sI M 0 (bI (!true))) 40 0) t3 := (c5.tr d5).tr f5
    have e3 : t3.2.1 9 = M.2.1 9 := hF.2.1 9 (by decide)
    obtain ⟨o4, t4, k4, g1, g2, g3, g4, g5⟩ := sayLoans (n := n) (M := t3) (p := p) (k0 := k3) (by rw [e3]; exact hR) ((hF.1 1 (by decide)).trans hU.2.1.1) hD2 hp8 f3 (by omega) (by omega)
    have hF4 := hF.tr g5
    obtain ⟨w1, hw1, hw2⟩ : ∃ w1, f_X1_put n 1024 o1 (32 : Int32) = some w1 ∧ f_X1_putNumber n 1024 w1 (nI r) = some o2 := ob d1
    obtain ⟨w3, hw3, hw4⟩ : ∃ w3, f_X1_put n 1024 o2 (32 : Int32) = some w3 ∧ f_X1_putNumber n 1024 w3 (nI b) = some o3 := ob f1
    have et1 : t1.2.1 9 = M.2.1 9 := c5.2.1 9 (by decide)
    have et2 : t2.2.1 9 = M.2.1 9 := (d5.2.1 9 (by decide)).trans et1
    have hval : (sI (sI M 0 (bI (!true))) 40 0).2.2.1 8 p = lN (sp (y p) (ln p)) := (hNm p hp).2.2.2.2
    rw [if_pos rfl, if_pos rfl, if_pos rfl, eLet, c1, ebnd, hw1, ebnd, gP0 hp8, ebnd, u1, r2, hw2, ebnd, hw3, ebnd, gP1 hp8, ebnd, u2, b2, hw4, ebnd, g1, ebnd, g3.1, ebnd3, if_pos rfl, ho0, eLet, egN (by omega) (by decide), eLet, nI_clamp (by omega), hval, c2, ebnd, mP0 hp8, ebnd, et1, r2, d2, ebnd, mP1 hp8, ebnd, et2, b2, f2, ebnd, g2]
    refine ⟨o4, _, 0, t4, nI k4, rfl, rfl, h.io (fun j q1 q2 q3 => ?_) (fun j q1 q2 => ?_) hF4.2.2 (hI.fr ?_ ?_) ⟨k4, g4, g3.1, g3.2.1, g3.2.2⟩, ?_, fun _ => pk_uLs⟩
    · rw [hF4.1 j q3, sI_o q3, sI_o q1]
    · rw [hF4.2.1 j q2]
      rfl
    · rw [hF4.1 23 (by decide)]
      rfl
    · rw [hF4.2.1 22 (by decide)]
      rfl
    · rw [hF4.1 0 (by decide)]
      rfl
end PRINT3
