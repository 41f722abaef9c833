/-! the model's step; alive and dead -/
section NXT
variable {n len : Nat} {inp rd M : OS} {B : Nat → Nat}
theorem rne_self {k s : Nat} (hs : s < len) (hk : kd B len s = k) : rne B len k (len - s) s = rne B len k (len - (s + 1)) (s + 1) := by
  obtain ⟨d, hd⟩ : ∃ d, len - s = d + 1 := ⟨len - s - 1, by omega⟩
  rw [hd, show len - (s + 1) = d by omega]
  show (if kd B len s = k then rne B len k d (s + 1) else s) = _
  rw [if_pos hk]
theorem m_nextTok (hT : Tx B len inp M) (hn : 700 < n) {e0 : Nat} (he : e0 ≤ len) (h25 : M.1 25 = nI e0) : ∃ M', f_X9_next n M = some M' ∧ TM B len (tS B len e0) (tE B len e0) M' ∧ Fn M M' := by
  have h600 := hT.1
  obtain ⟨s1, s2⟩ := tS_le (B := B) he
  have hnb := tS_nb (B := B) he
  have k5 := kd_le B len (tS B len e0)
  have hsk : f_X9_next n M = j_X9_next_39 n (sI M 25 (nI (tS B len e0))) := m_skip (len - e0) e0 n M hT (by omega) (by omega) h25
  generalize hs : tS B len e0 = s at *
  obtain ⟨M4, hM4⟩ : ∃ M4, M4 = sI (sI M 25 (nI s)) 26 (nI s) := ⟨_, rfl⟩
  have hF4 : Fn M M4 := by
    rw [hM4]
    exact (Fn.set M _ (by omega)).tr (Fn.set _ _ (by omega))
  have hT4 : Tx B len inp M4 := hT.fn hF4
  have h425 : M4.1 25 = nI s := by
    rw [hM4, sI_o (by decide), sI_s]
  have h426 : M4.1 26 = nI s := by
    rw [hM4, sI_s]
  have h39 : j_X9_next_39 n (sI M 25 (nI s)) = if kd B len s = 0 then some (sI M4 27 0) else if kd B len s = 4 then l_X9_next_85 n n (sl M4 30 0) else if kd B len s = 5 then l_X9_next_184 n n (sI M4 29 0) else if kd B len s = 3 then some (sI (sI M4 25 (nI (s + 1))) 27 3) else some (sI (sI M4 25 (nI (s + 1))) 27 4) := by
    unfold j_X9_next_39
    rw [sI_s, eLet, ← hM4, h425, m_here hT4 (by omega), ebnd]
    by_cases hl : s < len
    · have hk0 : kd B len s ≠ 0 := fun z => by
        have := kd_0.mp z
        omega
      have hb := (hT.2.2.2 s hl).1
      have hdg := m_isDigit (n := n) hT4 (show s < 2 ^ 31 by omega)
      rw [if_pos hl] at hdg
      rw [if_pos hl, if_neg (nI_m1 _ (by omega)), if_neg hk0, m_isLetter hT4 (by omega), ebnd, ifz, hdg, ebnd, ifz, eLet, eLet, eLet, nI_1]
      by_cases k4 : kd B len s = 4
      · rw [decide_eq_true k4, if_pos rfl, if_pos k4]
      · rw [decide_eq_false k4, if_neg (by decide), if_neg k4]
        by_cases k5' : kd B len s = 5
        · rw [decide_eq_true k5', if_pos rfl, if_pos k5']
        · rw [decide_eq_false k5', if_neg (by decide), if_neg k5']
          by_cases q : B s = 59
          · have : kd B len s = 3 := by
              unfold kd
              rw [if_pos hl, if_neg (by omega), if_neg (by omega), if_pos q]
            rw [if_pos this, if_pos (show nI (B s) = (59 : Int32) from by rw [q]; rfl), eLet]
          · have : kd B len s ≠ 3 := fun z => by
              unfold kd at z
              rw [if_pos hl] at z
              revert z
              repeat (first | split | (intro z; omega))
            rw [if_neg this, if_neg (show ¬ nI (B s) = (59 : Int32) from fun z => q (nI_inj (b := 59) (by omega) (by decide) z)), eLet]
    · rw [if_neg hl, if_pos rfl, if_pos (kd_0.mpr (by omega)), eLet]
  rw [hsk, h39]
  by_cases k0 : kd B len s = 0
  · have hE : tE B len e0 = s := by rw [tE_end (by rw [hs]; exact k0), hs]
    rw [if_pos k0, hE]
    refine ⟨_, rfl, ⟨by rw [sI_o (by decide), h426], by rw [sI_o (by decide), h425], ?_, fun z => by omega, fun z => by omega⟩, hF4.tr (Fn.set _ _ (by omega))⟩
    rw [sI_s]
    unfold mk
    rw [if_pos k0]
    rfl
  · have hsl := tkn_lt k0
    rw [if_neg k0]
    by_cases k4 : kd B len s = 4
    · have hE : tE B len e0 = rne B len 4 (len - s) s := by rw [tE_run (by rw [hs]; exact Or.inl k4), hs, rne_self hsl k4, k4]
      rw [if_pos k4]
      obtain ⟨M', m1, m2, m3, m4, m5, m6, m7⟩ := m_letters (n := n) (inp := inp) (by omega) (s := s) (len - s) s n (sl M4 30 0) (hT4.fr rfl rfl) (by omega) (by omega) (Or.inr ⟨rfl, k4⟩) (by rw [sl_1, h425]) (by rw [sl_1, h426]) (fun j a1 a2 => absurd a1 (by omega)) (by rw [Nat.sub_self]; rfl)
      rw [← hE] at m4 m6 m7
      refine ⟨M', m1, ⟨m3, m4, ?_, fun _ => ⟨m6, m7⟩, fun z => by omega⟩, hF4.tr (Fn.tr ⟨fun j _ => rfl, rfl, rfl⟩ m2)⟩
      rw [m5]
      unfold mk
      rw [if_neg k0, if_pos k4]
    · rw [if_neg k4]
      by_cases k5' : kd B len s = 5
      · have hE : tE B len e0 = rne B len 5 (len - s) s := by rw [tE_run (by rw [hs]; exact Or.inr k5'), hs, rne_self hsl k5', k5']
        rw [if_pos k5']
        obtain ⟨M', m1, m2, m3, m4, m5, m6, m7⟩ := m_digits (n := n) (inp := inp) (s := s) (len - s) s n (sI M4 29 0) (hT4.fr rfl rfl) (by omega) (by omega) (Nat.le_refl _) (by rw [sI_o (by decide), h425]) (by rw [sI_o (by decide), h426]) (fun j a1 a2 => absurd a1 (by omega)) (by rw [Nat.sub_self]; rfl)
        rw [← hE] at m5 m6 m7
        refine ⟨M', m1, ⟨m4, m5, ?_, fun z => absurd z k4, fun _ => m7⟩, hF4.tr ((Fn.set _ _ (by omega)).tr m2)⟩
        rw [m6]
        unfold mk
        rw [if_neg k0, if_neg k4, if_pos k5']
      · have hE : tE B len e0 = s + 1 := by rw [tE_one (by rw [hs]; exact k0) (by rw [hs]; exact k4) (by rw [hs]; exact k5'), hs]
        rw [if_neg k5', hE]
        by_cases k3 : kd B len s = 3
        · rw [if_pos k3]
          refine ⟨_, rfl, ⟨by rw [sI_o (by decide), sI_o (by decide), h426], by rw [sI_o (by decide), sI_s], ?_, fun z => absurd z k4, fun z => absurd z k5'⟩, (hF4.tr (Fn.set _ _ (by omega))).tr (Fn.set _ _ (by omega))⟩
          rw [sI_s]
          unfold mk
          rw [if_neg k0, if_neg k4, if_neg k5', if_pos k3]
          rfl
        · rw [if_neg k3]
          refine ⟨_, rfl, ⟨by rw [sI_o (by decide), sI_o (by decide), h426], by rw [sI_o (by decide), sI_s], ?_, fun z => absurd z k4, fun z => absurd z k5'⟩, (hF4.tr (Fn.set _ _ (by omega))).tr (Fn.set _ _ (by omega))⟩
          rw [sI_s]
          unfold mk
          rw [if_neg k0, if_neg k4, if_neg k5', if_neg k3]
          rfl
/-- both readers stand at the token s to e, and nothing has failed -/
def AL (B : Nat → Nat) (len : Nat) (inp : OS) (s e : Nat) (rd M : OS) : Prop := Tx B len inp M ∧ (s ≤ e ∧ e ≤ len ∧ (kd B len s ≠ 0 → s < e) ∧ kd B len s ≠ 1) ∧ (kd B len s = 4 → ∀ j, s ≤ j → j < e → 97 ≤ B j ∧ B j ≤ 122) ∧ (kd B len s = 5 → ∀ j, s ≤ j → j < e → 48 ≤ B j ∧ B j ≤ 57) ∧ TC B len s e rd ∧ TM B len s e M ∧ rd.1 3 = 0 ∧ rd.1 4 = -1 ∧ M.1 31 = 0 ∧ M.1 32 = -1
/-- something has failed, on both sides alike -/
def DD (rd M : OS) : Prop := rd.1 3 = M.1 31 ∧ rd.1 4 = M.1 32 ∧ M.1 31 ≠ 0
theorem tok_ok {e0 : Nat} (he : e0 ≤ len) : (tS B len e0 ≤ tE B len e0 ∧ tE B len e0 ≤ len ∧ (kd B len (tS B len e0) ≠ 0 → tS B len e0 < tE B len e0) ∧ kd B len (tS B len e0) ≠ 1) ∧ (kd B len (tS B len e0) = 4 → ∀ j, tS B len e0 ≤ j → j < tE B len e0 → 97 ≤ B j ∧ B j ≤ 122) ∧ (kd B len (tS B len e0) = 5 → ∀ j, tS B len e0 ≤ j → j < tE B len e0 → 48 ≤ B j ∧ B j ≤ 57) := by
  obtain ⟨a1, a2, a3⟩ := tE_le (B := B) he
  have hl : ∀ k, kd B len (tS B len e0) = k → (k = 4 ∨ k = 5) → ∀ j, tS B len e0 ≤ j → j < tE B len e0 → kd B len j = k := fun k h1 h2 j h3 h4 => by
    rw [tE_run (by rw [h1]; exact h2), h1] at h4
    by_cases e : j = tS B len e0
    · rw [e]
      exact h1
    · exact rne_all B len k _ _ j (by omega) h4
  exact ⟨⟨a1, a2, a3, tS_nb he⟩, fun h j h3 h4 => (kd4_rng (hl 4 h (Or.inl rfl) j h3 h4)).2, fun h j h3 h4 => (kd5_rng (hl 5 h (Or.inr rfl) j h3 h4)).2⟩
/-- a step of both -/
theorem stepBoth {s e : Nat} (h : AL B len inp s e rd M) (hn : 700 < n) : ∃ rd' M' s' e', f_X4_advance n rd 600 inp = some rd' ∧ f_X9_next n M = some M' ∧ AL B len inp s' e' rd' M' ∧ e ≤ s' ∧ (∀ j, j < 5 ∨ 8 < j → rd'.1 j = rd.1 j) ∧ rd'.2 = rd.2 ∧ Fn M M' := by
  obtain ⟨hT, ⟨h1, h2, h3, h4⟩, h5, h6, h7, h8, h9, h10, h11, h12⟩ := h
  obtain ⟨rd', a1, a2, a3, a4⟩ := c_advance (n := n) hT hn h2 h7.2.1
  obtain ⟨M', b1, b2, b3⟩ := m_nextTok (n := n) hT hn h2 h8.2.1
  obtain ⟨t1, t2, t3⟩ := tok_ok (B := B) h2
  exact ⟨rd', M', tS B len e, tE B len e, a1, b1, ⟨hT.fn b3, t1, t2, t3, a2, b2, by rw [a3 3 (by omega), h9], by rw [a3 4 (by omega), h10], by rw [b3.1 31 (by omega), h11], by rw [b3.1 32 (by omega), h12]⟩, (tS_le h2).1, a3, a4, b3⟩
/-! needs, fine, goOn -/
theorem m_fineA (h : M.1 31 = 0) : f_X9_fine_ n M = some 1 := by
  unfold f_X9_fine_
  rw [if_pos h]
theorem m_fineD (h : M.1 31 ≠ 0) : f_X9_fine_ n M = some 0 := by
  unfold f_X9_fine_
  rw [if_neg h]
theorem m_needsD (h : M.1 31 ≠ 0) (b v : Int32) : f_X9_needs n M b v = some M := by
  unfold f_X9_needs
  rw [if_neg h]
theorem m_needs1 (v : Int32) : f_X9_needs n M 1 v = some M := by
  unfold f_X9_needs
  rw [if_neg (show ¬ (1 : Int32) = 0 from by decide), ite_self]
theorem m_needs0 (h : M.1 31 = 0) (v : Int32) : f_X9_needs n M 0 v = some (sI (sI M 31 v) 32 (M.1 26)) := by
  unfold f_X9_needs
  rw [if_pos h, if_pos rfl, eLet, sI_o (show (26 : Nat) ≠ 31 by decide), eLet]
theorem m_goOnA (h : M.1 31 = 0) : f_X9_goOn n M = f_X9_next n M := by
  unfold f_X9_goOn
  rw [m_fineA h, ebnd, if_neg (show ¬ (1 : Int32) = 0 from by decide)]
  cases f_X9_next n M <;> rfl
theorem m_goOnD (h : M.1 31 ≠ 0) : f_X9_goOn n M = some M := by
  unfold f_X9_goOn
  rw [m_fineD h, ebnd, if_pos rfl]
theorem c_fail (v : Int32) : f_X4_fail n rd v = some (sI (sI rd 3 v) 4 (rd.1 6), 0) := by
  unfold f_X4_fail
  rw [eLet, sI_o (show (6 : Nat) ≠ 3 by decide), eLet]
/-- what the parser leaves alone in the model -/
def FP (M M' : OS) : Prop := (∀ j, j < 25 ∨ 36 < j → M'.1 j = M.1 j) ∧ (∀ j, j ≠ 10 → j ≠ 37 → M'.2.1 j = M.2.1 j) ∧ (∀ j, j ≠ 38 → M'.2.2.1 j = M.2.2.1 j)
theorem FP.rf (M : OS) : FP M M := ⟨fun _ _ => rfl, fun _ _ _ => rfl, fun _ _ => rfl⟩
theorem FP.tr {M M1 M2 : OS} (h : FP M M1) (h2 : FP M1 M2) : FP M M2 := ⟨fun j a => (h2.1 j a).trans (h.1 j a), fun j a b => (h2.2.1 j a b).trans (h.2.1 j a b), fun j a => (h2.2.2 j a).trans (h.2.2 j a)⟩
theorem Fn.fp {M M' : OS} (h : Fn M M') : FP M M' := ⟨fun j hj => h.1 j (by omega), fun j _ _ => by rw [h.2.1], fun j _ => by rw [h.2.2]⟩
theorem FP.set (M : OS) {j : Nat} (v : Int32) (hj : 25 ≤ j ∧ j ≤ 36) : FP M (sI M j v) := ⟨fun i hi => sI_o (by omega), fun _ _ _ => rfl, fun _ _ => rfl⟩
theorem FP.arr (M : OS) {j : Nat} (f : Nat → Int32) (hj : j = 10 ∨ j = 37) : FP M (sA M j f) := ⟨fun _ _ => rfl, fun i h1 h2 => sA_o (by omega), fun _ _ => rfl⟩
/-- the same failure on both sides -/
theorem AL.fail {s e : Nat} (h : AL B len inp s e rd M) {v : Int32} (hv : v ≠ 0) : DD (sI (sI rd 3 v) 4 (rd.1 6)) (sI (sI M 31 v) 32 (M.1 26)) ∧ FP M (sI (sI M 31 v) 32 (M.1 26)) ∧ (sI (sI M 31 v) 32 (M.1 26)).1 34 = M.1 34 := by
  refine ⟨⟨rfl, ?_, hv⟩, (FP.set M _ (by omega)).tr (FP.set _ _ (by omega)), rfl⟩
  rw [sI_s, sI_s, h.2.2.2.2.1.1, h.2.2.2.2.2.1.1]
end NXT
