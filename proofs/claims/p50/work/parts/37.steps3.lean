/-! a new fine; an appeal; a bit of the stalls -/
theorem ts_fls {b : Bool} (h : ¬ b = true) : b = false := Bool.eq_false_iff.mpr h
section STEPS3
variable {P NP D K T LC CC FC n : Nat} {c M : OS} {m : Nat → Int32}
def row8 (t : Nat → Int32) (k : Nat) (a0 a1 a2 a3 a4 a5 a6 a7 : Int32) : Nat → Int32 := upd (upd (upd (upd (upd (upd (upd (upd t k a0) (k + 1) a1) (k + 2) a2) (k + 3) a3) (k + 4) a4) (k + 5) a5) (k + 6) a6) (k + 7) a7
theorem row8_o {t : Nat → Int32} {k i : Nat} {a0 a1 a2 a3 a4 a5 a6 a7 : Int32} (h : i < k ∨ k + 8 ≤ i) : row8 t k a0 a1 a2 a3 a4 a5 a6 a7 i = t i := by
  unfold row8
  rw [upd_n (by omega), upd_n (by omega), upd_n (by omega), upd_n (by omega), upd_n (by omega), upd_n (by omega), upd_n (by omega), upd_n (by omega)]
def pick8 (a0 a1 a2 a3 a4 a5 a6 a7 : Int32) : Nat → Int32
  | 0 => a0
  | 1 => a1
  | 2 => a2
  | 3 => a3
  | 4 => a4
  | 5 => a5
  | 6 => a6
  | _ => a7
theorem row8_i {t : Nat → Int32} {k : Nat} {a0 a1 a2 a3 a4 a5 a6 a7 : Int32} : ∀ j, j < 8 → row8 t k a0 a1 a2 a3 a4 a5 a6 a7 (k + j) = pick8 a0 a1 a2 a3 a4 a5 a6 a7 j := fun j hj => by
  unfold row8
  match j, hj with
  | 0, _ => rw [upd_n (by omega), upd_n (by omega), upd_n (by omega), upd_n (by omega), upd_n (by omega), upd_n (by omega), upd_n (by omega)]; exact upd_s _ _ _
  | 1, _ => rw [upd_n (by omega), upd_n (by omega), upd_n (by omega), upd_n (by omega), upd_n (by omega), upd_n (by omega), upd_s]; rfl
  | 2, _ => rw [upd_n (by omega), upd_n (by omega), upd_n (by omega), upd_n (by omega), upd_n (by omega), upd_s]; rfl
  | 3, _ => rw [upd_n (by omega), upd_n (by omega), upd_n (by omega), upd_n (by omega), upd_s]; rfl
  | 4, _ => rw [upd_n (by omega), upd_n (by omega), upd_n (by omega), upd_s]; rfl
  | 5, _ => rw [upd_n (by omega), upd_n (by omega), upd_s]; rfl
  | 6, _ => rw [upd_n (by omega), upd_s]; rfl
  | 7, _ => rw [upd_s]; rfl
def fineC (c : OS) (f : Nat) (p l w b e a : Int32) : OS := sA (sI c 5 (nI (f + 1))) 14 (row8 (c.2.1 14) (8 * (f % 40)) p l w b e a 0 a)
def fineM (m : Nat → Int32) (f : Nat) (p l w b e a : Int32) : Nat → Int32 := upd (row8 m (1022 + 8 * (f % 40)) p l w b e a 0 a) 4 (nI (f + 1))
theorem R0.fine (h : R0 P NP D K T LC CC FC c m) {p w b e a : Nat} (hF : FC < 160000) (hp : p < NP) (hw : w ≤ 128000) (hb : b < e) (he : e ≤ T) (ha : a ≤ 200) (l : Int32) : R0 P NP D K T LC CC (FC + 1) (fineC c FC (nI p) l (nI w) (nI b) (nI e) (nI a)) (fineM m FC (nI p) l (nI w) (nI b) (nI e) (nI a)) := by
  have h80 := h.L80
  have h60 := h.C60
  have hP := h.P64
  have h40 : FC % 40 < 40 := Nat.mod_lt _ (by decide)
  obtain ⟨⟨hsc, how, hfr, hpr, hln, hcl, hfn, hst⟩, ⟨isc, iow, ipr, imt, iln, icl, ict, ifn⟩⟩ := h
  have ho : ∀ i, (i < 1022 + 8 * (FC % 40) ∨ 1022 + 8 * (FC % 40) + 8 ≤ i) → i ≠ 4 → fineM m FC (nI p) l (nI w) (nI b) (nI e) (nI a) i = m i := fun i h1 h2 => by
    unfold fineM
    rw [upd_n h2, row8_o h1]
  have e4 : fineM m FC (nI p) l (nI w) (nI b) (nI e) (nI a) 4 = nI (FC + 1) := upd_s _ _ _
  have hi : ∀ j, j < 8 → fineM m FC (nI p) l (nI w) (nI b) (nI e) (nI a) (1022 + 8 * (FC % 40) + j) = pick8 (nI p) l (nI w) (nI b) (nI e) (nI a) 0 (nI a) j := fun j hj => by
    unfold fineM
    rw [upd_n (by omega), row8_i j hj]
  generalize fineM m FC (nI p) l (nI w) (nI b) (nI e) (nI a) = m' at ho e4 hi ⊢
  have sm : ∀ {a b}, ((b ≤ 1022 ∧ 5 ≤ a) ∨ 1342 ≤ a) → Sm a b m m' := fun hb i h1 h2 => ho i (by omega) (by omega)
  refine ⟨⟨?_, how.sm hP rfl (sm (by omega)), hfr.sm hP rfl (sm (by omega)), hpr.sm rfl (sm (by omega)), hln.sm hP h80 rfl (sm (by omega)) (sm (by omega)), hcl.sm h60 rfl (sm (by omega)), ?_, hst.sm rfl (sm (by omega))⟩, ⟨?_, iow.sm (sm (by omega)), ipr.sm (sm (by omega)), imt.sm h60 (sm (by omega)) (sm (by omega)), iln.sm h80 (sm (by omega)), icl.sm h60 (sm (by omega)), ict.sm h60 (ho _ (by omega) (by omega)) (ho _ (by omega) (by omega)) (sm (by omega)), ?_⟩⟩
  · obtain ⟨g1, g2, g3, g4, g5, g6⟩ := hsc
    exact ⟨g1.trans (ho 0 (by omega) (by omega)).symm, g2.trans (ho 1 (by omega) (by omega)).symm, g3.trans (ho 6 (by omega) (by omega)).symm, g4.trans (ho 7 (by omega) (by omega)).symm, e4.symm, g6.trans (ho 5 (by omega) (by omega)).symm⟩
  · intro r hr hf j hj
    show row8 (c.2.1 14) (8 * (FC % 40)) (nI p) l (nI w) (nI b) (nI e) (nI a) 0 (nI a) (8 * r + j) = m' (1022 + 8 * r + j)
    by_cases e1 : r = FC % 40
    · subst e1
      rw [row8_i j hj, hi j hj]
    · rw [row8_o (by omega), ho _ (by omega) (by omega)]
      exact hfn r hr (by omega) j hj
  · obtain ⟨g1, g2, g3, g4, g5, g6, g7, g8, g9⟩ := isc
    exact ⟨(ho 0 (by omega) (by omega)).trans g1, g2, by rw [ho 1 (by omega) (by omega)]; exact g3, (ho 6 (by omega) (by omega)).trans g4, g5, (ho 7 (by omega) (by omega)).trans g6, g7, e4, by omega⟩
  · intro r hr hf
    by_cases e1 : r = FC % 40
    · subst e1
      rw [← Nat.add_zero (1022 + 8 * (FC % 40)), hi 0 (by omega), Nat.add_zero, hi 2 (by omega), hi 3 (by omega), hi 4 (by omega), hi 5 (by omega)]
      exact ⟨⟨p, hp, rfl⟩, ⟨w, hw, rfl⟩, ⟨b, e, hb, he, rfl, rfl⟩, ⟨a, ha, rfl⟩⟩
    · rw [ho _ (by omega) (by omega), ho _ (by omega) (by omega), ho _ (by omega) (by omega), ho _ (by omega) (by omega), ho _ (by omega) (by omega)]
      exact ifn r hr (by omega)
/-- a fine becomes less and is appealed -/
theorem R0.lessen (h : R0 P NP D K T LC CC FC c m) {r a : Nat} (hr : r < 40) (hf : r < FC) (ha : a ≤ 200) (y : Int32) : R0 P NP D K T LC CC FC (sA c 14 (upd (upd (c.2.1 14) (8 * r + 5) (nI a)) (8 * r + 6) y)) (upd (upd m (1022 + 8 * r + 5) (nI a)) (1022 + 8 * r + 6) y) := by
  have h80 := h.L80
  have h60 := h.C60
  have hP := h.P64
  obtain ⟨⟨hsc, how, hfr, hpr, hln, hcl, hfn, hst⟩, ⟨isc, iow, ipr, imt, iln, icl, ict, ifn⟩⟩ := h
  have ho : ∀ i, i ≠ 1022 + 8 * r + 5 → i ≠ 1022 + 8 * r + 6 → upd (upd m (1022 + 8 * r + 5) (nI a)) (1022 + 8 * r + 6) y i = m i := fun i h1 h2 => by rw [upd_n h2, upd_n h1]
  have e5 : upd (upd m (1022 + 8 * r + 5) (nI a)) (1022 + 8 * r + 6) y (1022 + 8 * r + 5) = nI a := by rw [upd_n (by omega), upd_s]
  have e6 : upd (upd m (1022 + 8 * r + 5) (nI a)) (1022 + 8 * r + 6) y (1022 + 8 * r + 6) = y := upd_s _ _ _
  generalize upd (upd m (1022 + 8 * r + 5) (nI a)) (1022 + 8 * r + 6) y = m' at ho e5 e6 ⊢
  have sm : ∀ {a b}, (b ≤ 1022 ∨ 1342 ≤ a) → Sm a b m m' := fun hb i h1 h2 => ho i (by omega) (by omega)
  have s0 : ∀ j, j < 8 → j ≠ 2 → j ≠ 3 → m' j = m j := fun j hj _ _ => ho j (by omega) (by omega)
  refine ⟨⟨hsc.sm (fun j _ _ _ _ => rfl) s0, how.sm hP rfl (sm (by omega)), hfr.sm hP rfl (sm (by omega)), hpr.sm rfl (sm (by omega)), hln.sm hP h80 rfl (sm (by omega)) (sm (by omega)), hcl.sm h60 rfl (sm (by omega)), ?_, hst.sm rfl (sm (by omega))⟩, ⟨isc.sm s0, iow.sm (sm (by omega)), ipr.sm (sm (by omega)), imt.sm h60 (sm (by omega)) (sm (by omega)), iln.sm h80 (sm (by omega)), icl.sm h60 (sm (by omega)), ict.sm h60 (ho _ (by omega) (by omega)) (ho _ (by omega) (by omega)) (sm (by omega)), ?_⟩⟩
  · intro r1 hr1 hf1 j hj
    show upd (upd (c.2.1 14) (8 * r + 5) (nI a)) (8 * r + 6) y (8 * r1 + j) = m' (1022 + 8 * r1 + j)
    by_cases q6 : 8 * r1 + j = 8 * r + 6
    · rw [q6, show 1022 + 8 * r1 + j = 1022 + 8 * r + 6 by omega, upd_s, e6]
    · by_cases q5 : 8 * r1 + j = 8 * r + 5
      · rw [q5, show 1022 + 8 * r1 + j = 1022 + 8 * r + 5 by omega, upd_n (by omega), upd_s, e5]
      · rw [upd_n q6, upd_n q5, ho _ (by omega) (by omega), hfn r1 hr1 hf1 j hj]
  · intro r1 hr1 hf1
    obtain ⟨k1, k2, k3, k4⟩ := ifn r1 hr1 hf1
    rw [ho _ (by omega) (by omega), ho (1022 + 8 * r1 + 2) (by omega) (by omega), ho (1022 + 8 * r1 + 3) (by omega) (by omega), ho (1022 + 8 * r1 + 4) (by omega) (by omega)]
    refine ⟨k1, k2, k3, ?_⟩
    by_cases q5 : r1 = r
    · subst q5
      rw [e5]
      exact ⟨a, ha, rfl⟩
    · rw [ho _ (by omega) (by omega)]
      exact k4
/-! bits -/
theorem sh64 : ∀ k : Fin 64, (((nI k.val).toInt64 &&& 63) = lN k.val) ∧ ((1 : Int64) <<< lN k.val).toBitVec = BitVec.twoPow 64 k.val ∧ (lN k.val).toBitVec.smod 64 = BitVec.ofNat 64 k.val := by decide +kernel
theorem sh32 : ∀ k : Fin 32, ((1 : Int32) <<< (nI k.val &&& 31)).toBitVec = BitVec.twoPow 32 k.val ∧ ((nI k.val &&& 31).toBitVec.smod 32).toNat = k.val := by decide +kernel
theorem or64 (x : Int64) {k i : Nat} (hk : k < 64) : (x ||| ((1 : Int64) <<< ((nI k).toInt64 &&& 63))).toBitVec.getLsbD i = (x.toBitVec.getLsbD i || decide (i = k)) := by
  obtain ⟨h1, h2, _⟩ := sh64 ⟨k, hk⟩
  rw [h1]
  show (x.toBitVec ||| ((1 : Int64) <<< lN k).toBitVec).getLsbD i = _
  rw [BitVec.getLsbD_or, h2, BitVec.getLsbD_twoPow, decide_eq_true hk, Bool.true_and]
  congr 1
  by_cases e : i = k
  · rw [decide_eq_true e, decide_eq_true e.symm]
  · rw [decide_eq_false e, decide_eq_false (fun z => e z.symm)]
theorem or32 (x : Int32) {k i : Nat} (hk : k < 32) : (x ||| ((1 : Int32) <<< (nI k &&& 31))).toBitVec.getLsbD i = (x.toBitVec.getLsbD i || decide (i = k)) := by
  obtain ⟨h2, _⟩ := sh32 ⟨k, hk⟩
  show (x.toBitVec ||| ((1 : Int32) <<< (nI k &&& 31)).toBitVec).getLsbD i = _
  rw [BitVec.getLsbD_or, h2, BitVec.getLsbD_twoPow, decide_eq_true hk, Bool.true_and]
  congr 1
  by_cases e : i = k
  · rw [decide_eq_true e, decide_eq_true e.symm]
  · rw [decide_eq_false e, decide_eq_false (fun z => e z.symm)]
theorem b1_64 (y : Int64) : (y &&& 1 = 1) ↔ y.toBitVec.getLsbD 0 = true := by
  have e : (y &&& 1).toBitVec = y.toBitVec &&& 1#64 := rfl
  rw [← Int64.toBitVec_inj, e]
  show y.toBitVec &&& 1#64 = 1#64 ↔ _
  generalize y.toBitVec = v
  constructor
  · intro h
    have := congrArg (fun z => BitVec.getLsbD z 0) h
    simpa using this
  · intro h
    apply BitVec.eq_of_getLsbD_eq
    intro i hi
    rw [BitVec.getLsbD_and]
    by_cases e : i = 0
    · subst e
      rw [h]
      decide
    · have e1 : (1#64).getLsbD i = false := by
        rw [BitVec.getLsbD_one]
        simp [e]
      rw [e1, Bool.and_false]
theorem b1_32 (y : Int32) : (y &&& 1 = 1) ↔ y.toBitVec.getLsbD 0 = true := by
  have e : (y &&& 1).toBitVec = y.toBitVec &&& 1#32 := rfl
  rw [← Int32.toBitVec_inj, e]
  show y.toBitVec &&& 1#32 = 1#32 ↔ _
  generalize y.toBitVec = v
  constructor
  · intro h
    have := congrArg (fun z => BitVec.getLsbD z 0) h
    simpa using this
  · intro h
    apply BitVec.eq_of_getLsbD_eq
    intro i hi
    rw [BitVec.getLsbD_and]
    by_cases e : i = 0
    · subst e
      rw [h]
      decide
    · have e1 : (1#32).getLsbD i = false := by
        rw [BitVec.getLsbD_one]
        simp [e]
      rw [e1, Bool.and_false]
theorem shr64 (x : Int64) {k : Nat} (hk : k < 64) : ((x >>> ((nI k).toInt64 &&& 63)) &&& 1 = 1) ↔ x.toBitVec.getLsbD k = true := by
  obtain ⟨h1, _, h3⟩ := sh64 ⟨k, hk⟩
  rw [b1_64, h1]
  have e : (x >>> lN k).toBitVec = x.toBitVec.sshiftRight' ((lN k).toBitVec.smod 64) := rfl
  rw [e, h3]
  have e2 : x.toBitVec.sshiftRight' (BitVec.ofNat 64 k) = x.toBitVec.sshiftRight k := by
    show x.toBitVec.sshiftRight (BitVec.ofNat 64 k).toNat = _
    rw [BitVec.toNat_ofNat, Nat.mod_eq_of_lt (by omega)]
  rw [e2, BitVec.getLsbD_sshiftRight]
  simp [hk]
theorem shr32 (x : Int32) {k : Nat} (hk : k < 32) : ((x >>> (nI k &&& 31)) &&& 1 = 1) ↔ x.toBitVec.getLsbD k = true := by
  obtain ⟨_, h3⟩ := sh32 ⟨k, hk⟩
  rw [b1_32]
  have e : (x >>> (nI k &&& 31)).toBitVec = x.toBitVec.sshiftRight ((nI k &&& 31).toBitVec.smod 32).toNat := rfl
  rw [e, h3, BitVec.getLsbD_sshiftRight]
  simp [hk]
theorem cmp0 (x y : Int64) : (lg_cmp x y = 0) ↔ x = y := by
  unfold lg_cmp
  by_cases h1 : x > y
  · rw [if_pos h1]
    refine ⟨fun z => absurd z (by decide), fun z => ?_⟩
    subst z
    exact absurd h1 Int64.lt_irrefl
  · rw [if_neg h1]
    by_cases h2 : x = y
    · rw [if_pos h2]
      exact ⟨fun _ => h2, fun _ => rfl⟩
    · rw [if_neg h2]
      exact ⟨fun z => absurd z (by decide), fun z => absurd z h2⟩
/-! the class's bit, the model's: read, set -/
theorem t7 {t : Nat} (ht : t < 2 ^ 31) : nI t &&& (7 : Int32) = nI (t % 8) := pk_andN (by omega) 3 (by decide)
theorem t3 {t : Nat} (ht : t < 2 ^ 31) : nI t >>> ((3 : Int32) &&& 31) = nI (t / 8) := pk_shrN ht _ 3 (by decide)
theorem cix {t p : Nat} (ht : t < 2 ^ 31) : (nI t &&& (7 : Int32)) * (8 : Int32) + nI p = nI (t % 8 * 8 + p) := by
  rw [t7 ht]
  show nI (t % 8) * nI 8 + nI p = _
  rw [pk_mul, nI_add]
theorem c_stalledIn {p t : Nat} (hp : p < 8) (ht : t < 2008) : f_X2_stalledIn n c (nI p) (nI t) = some (bI (cb c p t)) := by
  unfold f_X2_stalledIn
  rw [t3 (by omega), eLet, if_neg (nI_pos (by omega)), if_neg (show ¬ (251 : Int32) ≤ nI (t / 8) from nI_ge (a := t / 8) (b := 251) (by omega) (by omega)), egN (by omega) (by decide), eLet, nI_clamp (by omega), cix (by omega)]
  rw [bI_if]
  apply congrArg (fun z => some (bI z))
  unfold cb
  by_cases h : (c.2.2.1 9 (t / 8)).toBitVec.getLsbD (t % 8 * 8 + p) = true
  · rw [h]
    apply decide_eq_true
    rw [cmp0]
    exact (shr64 _ (by omega)).mpr h
  · rw [ts_fls h]
    apply decide_eq_false
    rw [cmp0]
    exact fun z => h ((shr64 _ (by omega)).mp z)
theorem c_noteStalled {p : Nat} (hp : p < 8) (hT : c.1 0 = nI T) (h2 : T ≤ 2000) : f_X2_noteStalled n c (nI p) = some (sL c 9 (vp_updL (c.2.2.1 9) (T / 8) (c.2.2.1 9 (T / 8) ||| ((1 : Int64) <<< ((nI (T % 8 * 8 + p)).toInt64 &&& 63))))) := by
  unfold f_X2_noteStalled
  rw [hT, t3 (by omega), eLet, if_neg (nI_pos (by omega)), if_neg (show ¬ (251 : Int32) ≤ nI (T / 8) from nI_ge (a := T / 8) (b := 251) (by omega) (by omega)), egN (by omega) (by decide), eLet, egN (by omega) (by decide), eLet, nI_clamp (by omega), cix (by omega)]
theorem rm32_32 {t : Nat} (ht : t < 2 ^ 31) : rm32 (nI t) (32 : Int32) = nI (t % 32) := pk_rem (d := 32) ht (by decide) (by decide)
theorem m_wordOf {p t : Nat} (ht : t < 2 ^ 31) : f_X9_wordOf n (nI p) (nI t) = some (nI (1342 + 63 * p + t / 32)) := by
  unfold f_X9_wordOf
  rw [show nI t / (32 : Int32) = nI (t / 32) from pk_div (d := 32) ht (by decide) (by decide)]
  exact congrArg some (ix2 1342 63 p (t / 32))
theorem m_wasStalledIn {p t : Nat} (hp : p < 8) (ht : t ≤ 2000) : f_X9_wasStalledIn n M (nI p) (nI t) = some (bI (mb (M.2.1 9) p t)) := by
  unfold f_X9_wasStalledIn
  rw [m_wordOf (by omega), ebnd, g18 (by omega), eLet, nI_clamp (by omega), rm32_32 (by omega), bI_if]
  apply congrArg (fun z => some (bI z))
  unfold mb
  by_cases h : (M.2.1 9 (1342 + 63 * p + t / 32)).toBitVec.getLsbD (t % 32) = true
  · rw [h]
    apply decide_eq_true
    exact (shr32 _ (by omega)).mpr h
  · rw [ts_fls h]
    apply decide_eq_false
    exact fun z => h ((shr32 _ (by omega)).mp z)
theorem R0.stall (h : R0 P NP D K T LC CC FC c m) {p : Nat} (hp : p < 8) (h1 : 1 ≤ T) : R0 P NP D K T LC CC FC (sL c 9 (vp_updL (c.2.2.1 9) (T / 8) (c.2.2.1 9 (T / 8) ||| ((1 : Int64) <<< ((nI (T % 8 * 8 + p)).toInt64 &&& 63))))) (upd m (1342 + 63 * p + T / 32) (m (1342 + 63 * p + T / 32) ||| ((1 : Int32) <<< (nI (T % 32) &&& 31)))) := by
  have h80 := h.L80
  have h60 := h.C60
  have hP := h.P64
  have hT := h.time.2.2
  obtain ⟨⟨hsc, how, hfr, hpr, hln, hcl, hfn, hst⟩, ⟨isc, iow, ipr, imt, iln, icl, ict, ifn⟩⟩ := h
  generalize hy : m (1342 + 63 * p + T / 32) ||| ((1 : Int32) <<< (nI (T % 32) &&& 31)) = y
  have sm : ∀ {a b}, b ≤ 1342 → Sm a b m (upd m (1342 + 63 * p + T / 32) y) := fun hb => upd_sm (by omega)
  have s0 := upd_lo (m := m) (k := 1342 + 63 * p + T / 32) (x := y) (by omega)
  refine ⟨⟨hsc.sm (fun j _ _ _ _ => rfl) s0, how.sm hP rfl (sm (by omega)), hfr.sm hP rfl (sm (by omega)), hpr.sm rfl (sm (by omega)), hln.sm hP h80 rfl (sm (by omega)) (sm (by omega)), hcl.sm h60 rfl (sm (by omega)), hfn.sm rfl (sm (by omega)), ?_⟩, ⟨isc.sm s0, iow.sm (sm (by omega)), ipr.sm (sm (by omega)), imt.sm h60 (sm (by omega)) (sm (by omega)), iln.sm h80 (sm (by omega)), icl.sm h60 (sm (by omega)), ict.sm h60 (upd_n (by omega)) (upd_n (by omega)) (sm (by omega)), ifn.sm (sm (by omega))⟩⟩
  have hc : ∀ q t, q < 8 → t < 2008 → cb (sL c 9 (vp_updL (c.2.2.1 9) (T / 8) (c.2.2.1 9 (T / 8) ||| ((1 : Int64) <<< ((nI (T % 8 * 8 + p)).toInt64 &&& 63))))) q t = (cb c q t || decide (t = T ∧ q = p)) := fun q t hq ht => by
    show (vp_updL (c.2.2.1 9) (T / 8) (c.2.2.1 9 (T / 8) ||| ((1 : Int64) <<< ((nI (T % 8 * 8 + p)).toInt64 &&& 63))) (t / 8)).toBitVec.getLsbD (t % 8 * 8 + q) = _
    unfold cb
    by_cases e : t / 8 = T / 8
    · rw [e, pk_uLs, or64 _ (by omega)]
      congr 1
      by_cases e2 : t = T ∧ q = p
      · rw [decide_eq_true e2]
        apply decide_eq_true
        rw [e2.1, e2.2]
      · rw [decide_eq_false e2]
        apply decide_eq_false
        intro z
        exact e2 (by omega)
    · rw [pk_uLn e, decide_eq_false (fun z => e (by rw [z.1])), Bool.or_false]
  have hm : ∀ q t, q < 8 → t ≤ 2000 → mb (upd m (1342 + 63 * p + T / 32) y) q t = (mb m q t || decide (t = T ∧ q = p)) := fun q t hq ht => by
    unfold mb
    by_cases e : 1342 + 63 * q + t / 32 = 1342 + 63 * p + T / 32
    · rw [e, upd_s, ← hy, or32 _ (by omega)]
      congr 1
      by_cases e2 : t = T ∧ q = p
      · rw [decide_eq_true e2]
        apply decide_eq_true
        rw [e2.1]
      · rw [decide_eq_false e2]
        apply decide_eq_false
        intro z
        exact e2 (by omega)
    · rw [upd_n e, decide_eq_false (fun z => e (by rw [z.1, z.2])), Bool.or_false]
  intro q hq
  refine ⟨fun t ht => ?_, fun t ht h3 => ?_⟩
  · rw [hc q t hq (by omega), hm q t hq ht, (hst q hq).1 t ht]
  · rw [hc q t hq ht, (hst q hq).2 t ht h3, Bool.false_or]
    apply decide_eq_false
    intro z
    omega
end STEPS3
