/-! the input: fed, cut, looked up -/
theorem nar8 (x : Int32) : ∃ b, b < 256 ∧ vp_nar .byte (x.toInt8.toInt32) = by8 b := by
  refine ⟨x.toBitVec.toNat % 256, Nat.mod_lt _ (by decide), ?_⟩
  show (x.toInt8.toInt32).toInt8.toInt32 = (nI (x.toBitVec.toNat % 256)).toInt8.toInt32
  rw [fb_byte_twice]
  congr 1
  apply Int8.toBitVec_inj.mp
  show x.toBitVec.signExtend 8 = (BitVec.ofNat 32 (x.toBitVec.toNat % 256)).signExtend 8
  rw [BitVec.signExtend_eq_setWidth_of_le _ (by decide), BitVec.signExtend_eq_setWidth_of_le _ (by decide)]
  apply BitVec.eq_of_toNat_eq
  rw [BitVec.toNat_setWidth, BitVec.toNat_setWidth, BitVec.toNat_ofNat]
  omega
theorem shr0 (x : Int32) : x >>> ((0 : Int32) &&& 31) = x := by
  apply (fa_eq _ _).mpr
  have e : (x >>> ((0 : Int32) &&& 31)).toInt = (x.toBitVec.sshiftRight (((0 : Int32) &&& 31).toBitVec.smod 32).toNat).toInt := rfl
  have k : (((0 : Int32) &&& 31).toBitVec.smod 32).toNat = 0 := by decide
  rw [e, k, BitVec.toInt_sshiftRight, Int.shiftRight_eq_div_pow]
  show x.toBitVec.toInt / 1 = x.toBitVec.toInt
  exact Int.ediv_one _
/-- k bytes lie in both inputs -/
def Tk (k : Nat) (inp M : OS) : Prop := inp.1 1 = nI k ∧ M.1 23 = nI k ∧ ∀ i, i < k → ∃ b, b < 256 ∧ inp.2.1 0 i = by8 b ∧ M.2.1 22 i = by8 b
def pM (M : OS) (k : Nat) (x : Int32) : OS := sI (sA M 22 (upd (M.2.1 22) k (vp_nar .byte (x.toInt8.toInt32)))) 23 (nI (k + 1))
def pC (inp : OS) (k : Nat) (x : Int32) : OS := sI (sA inp 0 (upd (inp.2.1 0) k (vp_nar .byte (x.toInt8.toInt32)))) 1 (nI (k + 1))
theorem Tk.put {k : Nat} {inp M : OS} (h : Tk k inp M) (x : Int32) : Tk (k + 1) (pC inp k x) (pM M k x) := by
  obtain ⟨h1, h2, h3⟩ := h
  refine ⟨rfl, rfl, fun i hi => ?_⟩
  show ∃ b, b < 256 ∧ upd (inp.2.1 0) k (vp_nar .byte (x.toInt8.toInt32)) i = by8 b ∧ upd (M.2.1 22) k (vp_nar .byte (x.toInt8.toInt32)) i = by8 b
  by_cases e : i = k
  · subst e
    obtain ⟨b, b1, b2⟩ := nar8 x
    exact ⟨b, b1, by rw [upd_s, b2], by rw [upd_s, b2]⟩
  · rw [upd_n e, upd_n e]
    exact h3 i (by omega)
section IO
variable {P NP D D2 K T LC CC FC E Bs F Pt Ap n : Nat} {c x inp ou ru no rd M : OS} {pa : PS} {so : Option OS} {sv : Value} {p3 : Nat → Int64} {m : Nat → Int32}
theorem c_put {k : Nat} (h : inp.1 1 = nI k) (hk : k < 600) (v : Int32) : f_X1_put n 600 inp v = some (pC inp k v) := by
  unfold f_X1_put
  rw [h, if_neg (nI_pos (by omega)), if_neg (show ¬ Int32.ofNat 600 ≤ nI k from nI_ge (a := k) (b := 600) hk (by decide)), egN hk (by decide), eLet, nI_clamp (by omega), eLet, sA_1, h, nI_1]
  rfl
def pM4 (M : OS) (k : Nat) (v : Int32) : OS := pM (pM (pM (pM M k (v >>> ((24 : Int32) &&& 31))) (k + 1) (v >>> ((16 : Int32) &&& 31))) (k + 2) (v >>> ((8 : Int32) &&& 31))) (k + 3) v
theorem feed4 {k : Nat} (h : Tk k inp M) (hk : k + 4 ≤ 600) (v : Int32) : ∃ inp', f_X1_putWord n 600 inp v = some inp' ∧ Tk (k + 4) inp' (pM4 M k v) := by
  have s1 := h.put (v >>> ((24 : Int32) &&& 31))
  have s2 := s1.put (v >>> ((16 : Int32) &&& 31))
  have s3 := s2.put (v >>> ((8 : Int32) &&& 31))
  have s4 := s3.put v
  refine ⟨_, ?_, s4⟩
  unfold f_X1_putWord
  rw [c_put h.1 (by omega), ebnd, c_put s1.1 (by omega), ebnd, c_put s2.1 (by omega), ebnd, c_put s3.1 (by omega), ebnd]
/-- the word and the shift of the model's byte i -/
def sel (a1 a2 a3 a4 a5 : Int32) (i : Nat) : Int32 := if i < 4 then a1 else if i < 8 then a2 else if i < 12 then a3 else if i < 16 then a4 else a5
theorem m_feed1 {a1 a2 a3 a4 a5 : Int32} {N k i : Nat} (hi : i < 20) (hk : k < 600) (hM : M.1 23 = nI k) : l_X9_feed_23 n a1 a2 a3 a4 a5 (N + 1) M (nI i) = l_X9_feed_23 n a1 a2 a3 a4 a5 N (pM M k ((sel a1 a2 a3 a4 a5 i) >>> (((24 : Int32) - (8 : Int32) * nI (i % 4)) &&& 31))) (nI (i + 1)) := by
  have er : rm32 (nI i) (4 : Int32) = nI (i % 4) := pk_rem (d := 4) (by omega) (by decide) (by decide)
  have j : ∀ s, j_X9_feed_76 n a1 a2 a3 a4 a5 (l_X9_feed_23 n a1 a2 a3 a4 a5 N) M (nI i) s = l_X9_feed_23 n a1 a2 a3 a4 a5 N (pM M k (s >>> (((24 : Int32) - (8 : Int32) * nI (i % 4)) &&& 31))) (nI (i + 1)) := fun s => by
    unfold j_X9_feed_76
    rw [hM, er, egN hk (by decide), eLet, nI_clamp (by omega), eLet, sA_1, hM, nI_1, eLet, nI_1]
    rfl
  show s_X9_feed_23 n a1 a2 a3 a4 a5 (l_X9_feed_23 n a1 a2 a3 a4 a5 N) M (nI i) = _
  unfold s_X9_feed_23
  rw [if_neg (show ¬ (20 : Int32) ≤ nI i from nI_ge (a := i) (b := 20) hi (by decide)), j, j, j, j, j]
  unfold sel
  by_cases h4 : i < 4
  · rw [if_pos h4, if_neg (show ¬ (4 : Int32) ≤ nI i from nI_ge (a := i) (b := 4) h4 (by decide))]
  · rw [if_neg h4, if_pos (show (4 : Int32) ≤ nI i from nI_le (a := 4) (by omega) (by omega))]
    by_cases h8 : i < 8
    · rw [if_pos h8, if_neg (show ¬ (8 : Int32) ≤ nI i from nI_ge (a := i) (b := 8) h8 (by decide))]
    · rw [if_neg h8, if_pos (show (8 : Int32) ≤ nI i from nI_le (a := 8) (by omega) (by omega))]
      by_cases h12 : i < 12
      · rw [if_pos h12, if_neg (show ¬ (12 : Int32) ≤ nI i from nI_ge (a := i) (b := 12) h12 (by decide))]
      · rw [if_neg h12, if_pos (show (12 : Int32) ≤ nI i from nI_le (a := 12) (by omega) (by omega))]
        by_cases h16 : i < 16
        · rw [if_pos h16, if_neg (show ¬ (16 : Int32) ≤ nI i from nI_ge (a := i) (b := 16) h16 (by decide))]
        · rw [if_neg h16, if_pos (show (16 : Int32) ≤ nI i from nI_le (a := 16) (by omega) (by omega))]
theorem m_feed4 {a1 a2 a3 a4 a5 v : Int32} {N k w : Nat} (hw : w < 5) (hk : k + 4 ≤ 600) (hM : M.1 23 = nI k) (hv : v = sel a1 a2 a3 a4 a5 (4 * w)) : l_X9_feed_23 n a1 a2 a3 a4 a5 (N + 4) M (nI (4 * w)) = l_X9_feed_23 n a1 a2 a3 a4 a5 N (pM4 M k v) (nI (4 * (w + 1))) := by
  have s1 : sel a1 a2 a3 a4 a5 (4 * w + 1) = v := by
    rw [hv]
    unfold sel
    repeat (first | rfl | (split <;> first | (exfalso; omega) | skip))
  have s2 : sel a1 a2 a3 a4 a5 (4 * w + 2) = v := by
    rw [hv]
    unfold sel
    repeat (first | rfl | (split <;> first | (exfalso; omega) | skip))
  have s3 : sel a1 a2 a3 a4 a5 (4 * w + 3) = v := by
    rw [hv]
    unfold sel
    repeat (first | rfl | (split <;> first | (exfalso; omega) | skip))
  rw [show N + 4 = N + 3 + 1 from rfl, m_feed1 (k := k) (by omega) (by omega) hM, show N + 3 = N + 2 + 1 from rfl, m_feed1 (k := k + 1) (by omega) (by omega) rfl, show N + 2 = N + 1 + 1 from rfl, m_feed1 (k := k + 2) (by omega) (by omega) rfl, m_feed1 (k := k + 3) (by omega) (by omega) rfl, ← hv, s1, show 4 * w + 1 + 1 = 4 * w + 2 from rfl, s2, show 4 * w + 2 + 1 = 4 * w + 3 from rfl, s3, show 4 * w % 4 = 0 by omega, show (4 * w + 1) % 4 = 1 by omega, show (4 * w + 2) % 4 = 2 by omega, show (4 * w + 3) % 4 = 3 by omega]
  rw [show (24 : Int32) - (8 : Int32) * nI 0 = 24 from by decide, show (24 : Int32) - (8 : Int32) * nI 1 = 16 from by decide, show (24 : Int32) - (8 : Int32) * nI 2 = 8 from by decide, show (24 : Int32) - (8 : Int32) * nI 3 = 0 from by decide, shr0]
  rfl
/-- the input or the output is another one, no more -/
theorem RXx.io {M' inp' ou' : OS} (h : RXx P NP E Bs F Pt Ap T LC CC FC D x inp ou ru no rd pa M so) (hi : ∀ j, j ≠ 0 → j ≠ 23 → j ≠ 40 → M'.1 j = M.1 j) (ha : ∀ j, j ≠ 22 → j ≠ 39 → M'.2.1 j = M.2.1 j) (h22 : M'.2.2 = M.2.2) (hI : InR inp' M') (hO : OuR ou' M') : RX D x inp' ou' ru no rd pa M' so := by
  obtain ⟨h1, h2, h3, h4, h5, h6, h7, h8, h9, h10⟩ := h
  refine ⟨P, NP, E, Bs, F, Pt, Ap, T, LC, CC, FC, h1.fr fun j b1 b2 => hi j (by omega) (by omega) (by omega), ?_, by rw [ha 9 (by decide) (by decide)]; exact h3, hI, hO, ?_, ?_, ?_, ?_, ?_⟩
  · obtain ⟨ln, z, q⟩ := h2
    refine ⟨ln, z, fun p hp => ?_⟩
    rw [h22]
    exact q p hp
  · rw [hi 31 (by decide) (by decide) (by decide), hi 32 (by decide) (by decide) (by decide)]
    exact h6
  · obtain ⟨nx, k, a1, a2, a3, a4, a5, a6, a7⟩ := h7
    exact ⟨nx, k, a1, a2, a3, a4, by rw [hi 15 (by decide) (by decide) (by decide)]; exact a5, a6, by rw [ha 14 (by decide) (by decide)]; exact a7⟩
  · obtain ⟨b, b1, b2, b3⟩ := h8
    exact ⟨b, b1, by rw [hi 16 (by decide) (by decide) (by decide)]; exact b2, by rw [ha 13 (by decide) (by decide)]; exact b3⟩
  · rw [hi 17 (by decide) (by decide) (by decide), h9]
  · rw [hi 19 (by decide) (by decide) (by decide), h10]
theorem pM4_1 (M : OS) (k : Nat) (v : Int32) {j : Nat} (hj : j ≠ 23) : (pM4 M k v).1 j = M.1 j := by
  unfold pM4 pM
  rw [sI_o hj, sA_1, sI_o hj, sA_1, sI_o hj, sA_1, sI_o hj, sA_1]
theorem pM4_2 (M : OS) (k : Nat) (v : Int32) {j : Nat} (hj : j ≠ 22) : (pM4 M k v).2.1 j = M.2.1 j := by
  unfold pM4 pM
  rw [sI_2, sA_o hj, sI_2, sA_o hj, sI_2, sA_o hj, sI_2, sA_o hj]
theorem OuR.fr {M' : OS} (h : OuR ou M) (h1 : M'.1 40 = M.1 40) (h2 : M'.2.1 39 = M.2.1 39) : OuR ou M' := by
  obtain ⟨z, b1, b2, b3, b4⟩ := h
  exact ⟨z, b1, b2, by rw [h1]; exact b3, by rw [h2]; exact b4⟩
theorem InR.fr {M' : OS} (h : InR inp M) (h1 : M'.1 23 = M.1 23) (h2 : M'.2.1 22 = M.2.1 22) : InR inp M' := by
  obtain ⟨z, b1, b2, b3, b4⟩ := h
  exact ⟨z, b1, b2, by rw [h1]; exact b3, by rw [h2]; exact b4⟩
theorem lk_feed (h : RXx P NP E Bs F Pt Ap T LC CC FC D x inp ou ru no rd pa M so) (hn : 100 < n) (a1 a2 a3 a4 a5 : Int32) : ∃ inp' M' r, f_X8_feed n sv x 600 inp a1 a2 a3 a4 a5 = some (inp', r) ∧ f_X9_feed n M a1 a2 a3 a4 a5 = some (M', r) ∧ RX D x inp' ou ru no rd pa M' so := by
  obtain ⟨k, k1, k2, k3, k4⟩ := h.2.2.2.1
  have hO := h.2.2.2.2.1
  unfold f_X8_feed f_X9_feed
  rw [k2, eLet, show (sI M 0 0).1 23 = nI k from k3, show nI k + (20 : Int32) = nI (k + 20) from nI_add k 20]
  by_cases hk : k + 20 ≤ 600
  · obtain ⟨N, rfl⟩ : ∃ N, n = N + 21 := ⟨n - 21, by omega⟩
    have t0 : Tk k inp (sI M 0 0) := ⟨k2, k3, k4⟩
    obtain ⟨i1, f1, t1⟩ := feed4 (n := N + 21) t0 (by omega) a1
    obtain ⟨i2, f2, t2⟩ := feed4 (n := N + 21) t1 (by omega) a2
    obtain ⟨i3, f3, t3⟩ := feed4 (n := N + 21) t2 (by omega) a3
    obtain ⟨i4, f4, t4⟩ := feed4 (n := N + 21) t3 (by omega) a4
    obtain ⟨i5, f5, t5⟩ := feed4 (n := N + 21) t4 (by omega) a5
    rw [if_pos (show nI (k + 20) ≤ (600 : Int32) from nI_le (a := k + 20) (b := 600) hk (by decide)), if_pos (show nI (k + 20) ≤ (600 : Int32) from nI_le (a := k + 20) (b := 600) hk (by decide)), f1, ebnd, f2, ebnd, f3, ebnd, f4, ebnd, f5, ebnd, t5.1]
    have g1 := m_feed4 (n := N + 21) (M := sI M 0 0) (a1 := a1) (a2 := a2) (a3 := a3) (a4 := a4) (a5 := a5) (N := N + 17) (k := k) (w := 0) (v := a1) (by omega) (by omega) k3 rfl
    have g2 := m_feed4 (n := N + 21) (a1 := a1) (a2 := a2) (a3 := a3) (a4 := a4) (a5 := a5) (N := N + 13) (k := k + 4) (w := 1) (v := a2) (by omega) (by omega) t1.2.1 rfl
    have g3 := m_feed4 (n := N + 21) (a1 := a1) (a2 := a2) (a3 := a3) (a4 := a4) (a5 := a5) (N := N + 9) (k := k + 4 + 4) (w := 2) (v := a3) (by omega) (by omega) t2.2.1 rfl
    have g4 := m_feed4 (n := N + 21) (a1 := a1) (a2 := a2) (a3 := a3) (a4 := a4) (a5 := a5) (N := N + 5) (k := k + 4 + 4 + 4) (w := 3) (v := a4) (by omega) (by omega) t3.2.1 rfl
    have g5 := m_feed4 (n := N + 21) (a1 := a1) (a2 := a2) (a3 := a3) (a4 := a4) (a5 := a5) (N := N + 1) (k := k + 4 + 4 + 4 + 4) (w := 4) (v := a5) (by omega) (by omega) t4.2.1 rfl
    have hm : l_X9_feed_23 (N + 21) a1 a2 a3 a4 a5 (N + 21) (sI M 0 0) 0 = some (pM4 (pM4 (pM4 (pM4 (pM4 (sI M 0 0) k a1) (k + 4) a2) (k + 4 + 4) a3) (k + 4 + 4 + 4) a4) (k + 4 + 4 + 4 + 4) a5, nI (k + 4 + 4 + 4 + 4 + 4)) := by
      refine g1.trans (g2.trans (g3.trans (g4.trans (g5.trans ?_))))
      show s_X9_feed_23 (N + 21) a1 a2 a3 a4 a5 _ _ (nI 20) = _
      unfold s_X9_feed_23
      rw [if_pos (show (20 : Int32) ≤ nI 20 from Int32.le_refl (20 : Int32)), t5.2.1]
    refine ⟨i5, _, _, rfl, hm, h.io (fun j b1 b2 b3 => ?_) (fun j b1 b2 => ?_) rfl ⟨k + 20, by omega, t5.1, t5.2.1, t5.2.2⟩ (hO.fr ?_ ?_)⟩
    · rw [pM4_1 _ _ _ b2, pM4_1 _ _ _ b2, pM4_1 _ _ _ b2, pM4_1 _ _ _ b2, pM4_1 _ _ _ b2, sI_o b1]
    · rw [pM4_2 _ _ _ b1, pM4_2 _ _ _ b1, pM4_2 _ _ _ b1, pM4_2 _ _ _ b1, pM4_2 _ _ _ b1]
      rfl
    · rw [pM4_1 _ _ _ (by decide), pM4_1 _ _ _ (by decide), pM4_1 _ _ _ (by decide), pM4_1 _ _ _ (by decide), pM4_1 _ _ _ (by decide)]
      rfl
    · rw [pM4_2 _ _ _ (by decide), pM4_2 _ _ _ (by decide), pM4_2 _ _ _ (by decide), pM4_2 _ _ _ (by decide), pM4_2 _ _ _ (by decide)]
      rfl
  · rw [if_neg (show ¬ nI (k + 20) ≤ (600 : Int32) from nI_ge (a := 600) (b := k + 20) (by omega) (by omega)), if_neg (show ¬ nI (k + 20) ≤ (600 : Int32) from nI_ge (a := 600) (b := k + 20) (by omega) (by omega))]
    exact ⟨inp, sI M 0 0, -1, rfl, rfl, h.rx.eqM (EqM.told M 0) (Cpy.rf no)⟩
theorem lk_truncate (h : RXx P NP E Bs F Pt Ap T LC CC FC D x inp ou ru no rd pa M so) (v : Int32) : ∃ inp' M' r, f_X8_truncate n sv x 600 inp v = some (inp', r) ∧ f_X9_truncate n M v = some (M', r) ∧ RX D x inp' ou ru no rd pa M' so := by
  obtain ⟨k, k1, k2, k3, k4⟩ := h.2.2.2.1
  have hO := h.2.2.2.2.1
  unfold f_X8_truncate f_X9_truncate
  rw [k2, nd3e v k (by omega), eLet, eLet, show (sI M 0 0).1 23 = nI k from k3, in_to v k (by omega), ebnd, ifz]
  cases hv : vb v (k + 1) with
  | false => exact ⟨inp, sI M 0 0, 0, rfl, rfl, h.rx.eqM (EqM.told M 0) (Cpy.rf no)⟩
  | true =>
    obtain ⟨j, hj, rfl⟩ := vb_ok (by omega) hv
    refine ⟨sI inp 1 (nI j), sI (sI M 0 0) 23 (nI j), 1, rfl, rfl, h.io (fun i b1 b2 b3 => by rw [sI_o b2, sI_o b1]) (fun _ _ _ => rfl) rfl ⟨j, by omega, rfl, rfl, fun i hi => ?_⟩ (hO.fr rfl rfl)⟩
    exact k4 i (by omega)
end IO
