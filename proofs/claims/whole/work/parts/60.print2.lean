/-! a process printed -/
/-- k bytes lie in both outputs -/
def Ok (k : Nat) (ou M : OS) : Prop := ou.1 1 = nI k ∧ M.1 40 = nI k ∧ ∀ i, i < k → ∃ b, b < 128 ∧ ou.2.1 0 i = nI b ∧ M.2.1 39 i = nI b
/-- the model said something -/
def Fs (M M' : OS) : Prop := (∀ j, j ≠ 40 → M'.1 j = M.1 j) ∧ (∀ j, j ≠ 39 → M'.2.1 j = M.2.1 j) ∧ M'.2.2 = M.2.2
theorem Fs.rf (M : OS) : Fs M M := ⟨fun _ _ => rfl, fun _ _ => rfl, rfl⟩
theorem Fs.tr {M M1 M2 : OS} (h : Fs M M1) (h2 : Fs M1 M2) : Fs M M2 := ⟨fun j a => (h2.1 j a).trans (h.1 j a), fun j a => (h2.2.1 j a).trans (h.2.1 j a), h2.2.2.trans h.2.2⟩
theorem nar7 {b : Nat} (hb : b < 128) : vp_nar .byte ((nI b).toInt8.toInt32) = nI b := by
  show ((nI b).toInt8.toInt32).toInt8.toInt32 = nI b
  rw [fb_byte_twice]
  exact fb_byte (by rw [nI_toInt (by omega)]; omega) (by rw [nI_toInt (by omega)]; omega)
section PRINT2
variable {P NP D D2 K T LC CC FC E Bs F Pt Ap n : Nat} {c x inp ou ru no rd M : OS} {pa : PS} {so : Option OS} {sv : Value} {p3 : Nat → Int64} {m : Nat → Int32}
theorem say1 {k b : Nat} (h : Ok k ou M) (hk : k < 1000) (hb : b < 128) : ∃ ou' M', f_X1_put n 1024 ou (nI b) = some ou' ∧ f_X9_says n M (nI b) = some M' ∧ Ok (k + 1) ou' M' ∧ Fs M M' := by
  obtain ⟨h1, h2, h3⟩ := h
  refine ⟨sI (sA ou 0 (upd (ou.2.1 0) k (nI b))) 1 (nI (k + 1)), sI (sA M 39 (upd (M.2.1 39) k (nI b))) 40 (nI (k + 1)), ?_, ?_, ⟨rfl, rfl, fun i hi => ?_⟩, ⟨fun j hj => ?_, fun j hj => ?_, rfl⟩⟩
  · unfold f_X1_put
    rw [h1, if_neg (nI_pos (by omega)), if_neg (show ¬ Int32.ofNat 1024 ≤ nI k from nI_ge (a := k) (b := 1024) (by omega) (by decide)), egN (by omega) (by decide), eLet, nI_clamp (by omega), eLet, sA_1, h1, nI_1, nar7 hb]
  · unfold f_X9_says
    rw [h2, egN hk (by decide), eLet, nI_clamp (by omega), eLet, sA_1, h2, nI_1, nar7 hb]
  · show ∃ b', b' < 128 ∧ upd (ou.2.1 0) k (nI b) i = nI b' ∧ upd (M.2.1 39) k (nI b) i = nI b'
    by_cases e : i = k
    · subst e
      exact ⟨b, hb, upd_s _ _ _, upd_s _ _ _⟩
    · rw [upd_n e, upd_n e]
      exact h3 i (by omega)
  · rw [sI_o hj, sA_1]
  · rw [sI_2, sA_o hj]
/-- digits j - 1 .. 0 of d, printed by the class; by the model -/
def cDg (n d : Nat) : Nat → OS → Option OS
  | 0, ou => some ou
  | j + 1, ou => bnd (f_X1_put n 1024 ou (nI (48 + d / 10 ^ j % 10))) (fun t => cDg n d j t)
def mDg (n d : Nat) : Nat → OS → Option OS
  | 0, M => some M
  | j + 1, M => bnd (f_X9_says n M (nI (48 + d / 10 ^ j % 10))) (fun t => mDg n d j t)
theorem both_dg {d : Nat} : ∀ {j k : Nat} {ou M : OS}, Ok k ou M → k + j ≤ 1000 → ∃ ou' M', cDg n d j ou = some ou' ∧ mDg n d j M = some M' ∧ Ok (k + j) ou' M' ∧ Fs M M'
  | 0, k, ou, M, h, _ => ⟨ou, M, rfl, rfl, h, Fs.rf M⟩
  | j + 1, k, ou, M, h, hk => by
    have hd : d / 10 ^ j % 10 < 10 := Nat.mod_lt _ (by decide)
    obtain ⟨o1, M1, a1, a2, a3, a4⟩ := say1 (n := n) (b := 48 + d / 10 ^ j % 10) h (by omega) (by omega)
    obtain ⟨o2, M2, b1, b2, b3, b4⟩ := both_dg (d := d) (j := j) a3 (by omega)
    refine ⟨o2, M2, ?_, ?_, ?_, a4.tr b4⟩
    · show bnd (f_X1_put n 1024 ou (nI (48 + d / 10 ^ j % 10))) _ = _
      rw [a1, ebnd, b1]
    · show bnd (f_X9_says n M (nI (48 + d / 10 ^ j % 10))) _ = _
      rw [a2, ebnd, b2]
    · rw [show k + (j + 1) = k + 1 + j by omega]
      exact b3
theorem mDg_last {d : Nat} : ∀ {j : Nat} {M : OS}, mDg n d (j + 1) M = bnd (mDg n (d / 10) j M) (fun t => f_X9_says n t (nI (48 + d % 10)))
  | 0, M => by
    show bnd (f_X9_says n M (nI (48 + d / 10 ^ 0 % 10))) (fun t => some t) = bnd (some M) (fun t => f_X9_says n t (nI (48 + d % 10)))
    rw [ebnd, Nat.pow_zero, Nat.div_one]
    cases f_X9_says n M (nI (48 + d % 10)) <;> rfl
  | j + 1, M => by
    have e : d / 10 ^ (j + 1) % 10 = d / 10 / 10 ^ j % 10 := by
      rw [Nat.pow_succ, Nat.mul_comm, Nat.div_div_eq_div_mul]
    show bnd (f_X9_says n M (nI (48 + d / 10 ^ (j + 1) % 10))) (fun t => mDg n d (j + 1) t) = bnd (bnd (f_X9_says n M (nI (48 + d / 10 / 10 ^ j % 10))) (fun t => mDg n (d / 10) j t)) (fun t => f_X9_says n t (nI (48 + d % 10)))
    rw [e]
    cases f_X9_says n M (nI (48 + d / 10 / 10 ^ j % 10)) with
    | none => rfl
    | some t =>
      rw [ebnd, ebnd]
      exact mDg_last
theorem pow10 {a b : Nat} (h : a ≤ b) : 10 ^ a ≤ 10 ^ b := Nat.pow_le_pow_right (by decide) h
theorem m_num : ∀ (L d N : Nat) (M : OS), d < 10 ^ (L + 1) → (L = 0 ∨ 10 ^ L ≤ d) → L < N → d < 2 ^ 31 → f_X9_saysNumber n N M (nI d) = mDg n d (L + 1) M
  | 0, d, N, M, h1, _, hN, h31 => by
    obtain ⟨N', rfl⟩ : ∃ N', N = N' + 1 := ⟨N - 1, by omega⟩
    have h10 : d < 10 := h1
    show (if nI d ≤ (9 : Int32) then f_X9_says n M ((48 : Int32) + (rm32 (nI d) (10 : Int32))) else _) = _
    rw [if_pos (show nI d ≤ (9 : Int32) from nI_le (b := 9) (by omega) (by decide)), show rm32 (nI d) (10 : Int32) = nI (d % 10) from pk_rem (d := 10) (by omega) (by decide) (by decide), show (48 : Int32) + nI (d % 10) = nI (48 + d % 10) from nI_add 48 _, mDg_last, Nat.div_eq_of_lt h10]
    rfl
  | L + 1, d, N, M, h1, h2, hN, h31 => by
    obtain ⟨N', rfl⟩ : ∃ N', N = N' + 1 := ⟨N - 1, by omega⟩
    have h2' : 10 ^ (L + 1) ≤ d := by
      rcases h2 with q | q
      · omega
      · exact q
    have p1 := pow10 (Nat.zero_le L)
    rw [Nat.pow_succ] at h1 h2'
    rw [Nat.pow_succ] at h1
    show (if nI d ≤ (9 : Int32) then _ else bnd (f_X9_saysNumber n N' M (nI d / (10 : Int32))) (fun (t : OS) => f_X9_says n t ((48 : Int32) + (rm32 (nI d) (10 : Int32))))) = _
    rw [if_neg (show ¬ nI d ≤ (9 : Int32) from nI_ge (a := 9) (b := d) (by omega) h31), show nI d / (10 : Int32) = nI (d / 10) from pk_div (d := 10) h31 (by decide) (by decide), m_num L (d / 10) N' M (by rw [Nat.pow_succ]; omega) (Or.inr (by omega)) (by omega) (by omega), show rm32 (nI d) (10 : Int32) = nI (d % 10) from pk_rem (d := 10) h31 (by decide) (by decide), show (48 : Int32) + nI (d % 10) = nI (48 + d % 10) from nI_add 48 _]
    exact mDg_last.symm
theorem c_num_go {d : Nat} (hd : d < 2 ^ 31) : ∀ (j N : Nat) (ou : OS), j ≤ 9 → (j = 0 ∨ 10 ^ j ≤ d) → j + 1 < N → l_X1_putNumber_3 n 1024 (nI d) N ou (nI (10 ^ j)) = cDg n d (j + 1) ou
  | 0, N, ou, _, _, hN => by
    obtain ⟨N', rfl⟩ : ∃ N', N = N' + 2 := ⟨N - 2, by omega⟩
    have hj : j_X1_putNumber_17 n 1024 (nI d) (l_X1_putNumber_3 n 1024 (nI d) (N' + 1)) ou (nI (10 ^ 0)) = cDg n d 1 ou := by
      unfold j_X1_putNumber_17
      rw [show nI (10 ^ 0) = nI 1 from rfl, eoN (show ¬ nI 1 = (0 : Int32) from by decide), pk_div hd (show 0 < 1 by decide) (by decide), show rm32 (nI (d / 1)) (10 : Int32) = nI (d / 1 % 10) from pk_rem (d := 10) (by rw [Nat.div_one]; exact hd) (by decide) (by decide), show (48 : Int32) + nI (d / 1 % 10) = nI (48 + d / 1 % 10) from nI_add 48 _]
      show bnd (f_X1_put n 1024 ou (nI (48 + d / 1 % 10))) (fun th_1 => Let (nI 1 / (10 : Int32)) fun v2_2 => l_X1_putNumber_3 n 1024 (nI d) (N' + 1) th_1 v2_2) = bnd (f_X1_put n 1024 ou (nI (48 + d / 10 ^ 0 % 10))) (fun t => some t)
      rfl
    show s_X1_putNumber_3 n 1024 (nI d) _ ou (nI (10 ^ 0)) = _
    unfold s_X1_putNumber_3
    rw [hj, if_neg (show ¬ nI (10 ^ 0) ≤ (0 : Int32) from by decide), if_pos (show nI (10 ^ 0) = (1 : Int32) from rfl), ite_self]
  | j + 1, N, ou, hj9, h2, hN => by
    obtain ⟨N', rfl⟩ : ∃ N', N = N' + 1 := ⟨N - 1, by omega⟩
    have h2' : 10 ^ (j + 1) ≤ d := by
      rcases h2 with q | q
      · omega
      · exact q
    have p1 := pow10 hj9
    have p2 : 1 ≤ 10 ^ (j + 1) := pow10 (Nat.zero_le _)
    have p3 : 10 ^ 9 = 1000000000 := by decide
    have p4 : 10 ^ (j + 1) / 10 = 10 ^ j := by rw [Nat.pow_succ, Nat.mul_div_cancel _ (by decide)]
    have p5 : d / 10 ^ (j + 1) ≤ d := Nat.div_le_self _ _
    show s_X1_putNumber_3 n 1024 (nI d) _ ou (nI (10 ^ (j + 1))) = _
    unfold s_X1_putNumber_3 j_X1_putNumber_17
    rw [if_neg (nI_nle p2 (by omega)), if_pos (nI_le h2' hd), eoN (nI_ne0 p2 (by omega)), pk_div hd p2 (by omega), show rm32 (nI (d / 10 ^ (j + 1))) (10 : Int32) = nI (d / 10 ^ (j + 1) % 10) from pk_rem (d := 10) (by omega) (by decide) (by decide), show (48 : Int32) + nI (d / 10 ^ (j + 1) % 10) = nI (48 + d / 10 ^ (j + 1) % 10) from nI_add 48 _]
    show bnd (f_X1_put n 1024 ou (nI (48 + d / 10 ^ (j + 1) % 10))) (fun th_1 => Let (nI (10 ^ (j + 1)) / (10 : Int32)) fun v2_2 => l_X1_putNumber_3 n 1024 (nI d) N' th_1 v2_2) = bnd (f_X1_put n 1024 ou (nI (48 + d / 10 ^ (j + 1) % 10))) (fun t => cDg n d (j + 1) t)
    cases f_X1_put n 1024 ou (nI (48 + d / 10 ^ (j + 1) % 10)) with
    | none => rfl
    | some t =>
      rw [ebnd, ebnd, eLet, show nI (10 ^ (j + 1)) / (10 : Int32) = nI (10 ^ (j + 1) / 10) from pk_div (d := 10) (by omega) (by decide) (by decide), p4]
      have p6 : 10 ^ j ≤ 10 ^ (j + 1) := pow10 (by omega)
      exact c_num_go hd j N' t (by omega) (by omega) (by omega)
theorem c_num_skip {d L : Nat} (hd : d < 10 ^ (L + 1)) (hd31 : d < 2 ^ 31) (hL : L = 0 ∨ 10 ^ L ≤ d) : ∀ (i N : Nat) (ou : OS), L + i ≤ 9 → L + i + 1 < N → l_X1_putNumber_3 n 1024 (nI d) N ou (nI (10 ^ (L + i))) = cDg n d (L + 1) ou
  | 0, N, ou, h9, hN => c_num_go hd31 L N ou h9 hL hN
  | i + 1, N, ou, h9, hN => by
    obtain ⟨N', rfl⟩ : ∃ N', N = N' + 1 := ⟨N - 1, by omega⟩
    have p1 := pow10 h9
    have p2 : 10 ^ (L + 1) ≤ 10 ^ (L + (i + 1)) := pow10 (by omega)
    have p0 : 10 ≤ 10 ^ (L + (i + 1)) := pow10 (a := 1) (by omega)
    have p3 : 10 ^ 9 = 1000000000 := by decide
    have p4 : 10 ^ (L + (i + 1)) / 10 = 10 ^ (L + i) := by rw [show L + (i + 1) = L + i + 1 from rfl, Nat.pow_succ, Nat.mul_div_cancel _ (by decide)]
    show s_X1_putNumber_3 n 1024 (nI d) _ ou (nI (10 ^ (L + (i + 1)))) = _
    unfold s_X1_putNumber_3
    rw [if_neg (nI_nle (by omega) (by omega)), if_neg (nI_ge (by omega) (by omega)), if_neg (show ¬ nI (10 ^ (L + (i + 1))) = (1 : Int32) from fun z => by have := nI_inj (b := 1) (by omega) (by decide) z; omega), eLet, show nI (10 ^ (L + (i + 1))) / (10 : Int32) = nI (10 ^ (L + (i + 1)) / 10) from pk_div (d := 10) (by omega) (by decide) (by decide), p4]
    exact c_num_skip hd hd31 hL i N' ou (by omega) (by omega)
theorem digits : ∀ (W d : Nat), 1 ≤ W → d < 10 ^ W → ∃ L, L + 1 ≤ W ∧ d < 10 ^ (L + 1) ∧ (L = 0 ∨ 10 ^ L ≤ d)
  | 0, _, h, _ => absurd h (by omega)
  | 1, _, _, h => ⟨0, by omega, h, Or.inl rfl⟩
  | W + 2, d, _, h => by
    by_cases q : 10 ^ (W + 1) ≤ d
    · exact ⟨W + 1, by omega, h, Or.inr q⟩
    · obtain ⟨L, a, b, c⟩ := digits (W + 1) d (by omega) (by omega)
      exact ⟨L, by omega, b, c⟩
/-- a number below 10 ^ W is printed -/
theorem sayNum {k d W : Nat} (h : Ok k ou M) (hW : 1 ≤ W) (hW9 : W ≤ 9) (hd : d < 10 ^ W) (hk : k + W ≤ 1000) (hn : 100 < n) : ∃ ou' M' k', f_X1_putNumber n 1024 ou (nI d) = some ou' ∧ f_X9_saysNumber n 12 M (nI d) = some M' ∧ Ok k' ou' M' ∧ k' ≤ k + W ∧ Fs M M' := by
  obtain ⟨L, l1, l2, l3⟩ := digits W d hW hd
  have p1 := pow10 hW9
  have p3 : 10 ^ 9 = 1000000000 := by decide
  obtain ⟨o2, M2, b1, b2, b3, b4⟩ := both_dg (n := n) (d := d) (j := L + 1) h (by omega)
  refine ⟨o2, M2, k + (L + 1), ?_, ?_, b3, by omega, b4⟩
  · have q := c_num_skip (n := n) l2 (by omega) l3 (9 - L) n ou (by omega) (by omega)
    rw [show L + (9 - L) = 9 by omega, b1] at q
    exact q
  · rw [m_num L d 12 M l2 l3 (by omega) (by omega)]
    exact b2
end PRINT2
