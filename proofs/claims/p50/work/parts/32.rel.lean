/-! what the two sides hold: the class's court c beside the model's row m -/
def pc (m : Nat → Int32) (P : Nat) (v : Int32) : Nat := fb_ct (fun k => decide (m (538 + k) = v)) P
def bk (m : Nat → Int32) (P l : Nat) : Bool := decide (m (58 + 6 * l + 1) < m 0) && decide (0 < pc m P (nI l))
def wt (m : Nat → Int32) (q : Nat) : Bool := decide (m (602 + 7 * q + 3) = 0)
def stc (m : Nat → Int32) (v : Int32) (CC : Nat) : Nat := fb_ct (fun q => decide (m (602 + 7 * q + 3) = v)) CC
def stp (m : Nat → Int32) (p v : Int32) (CC : Nat) : Nat := fb_ct (fun q => decide (m (602 + 7 * q + 3) = v) && decide (m (602 + 7 * q) = p)) CC
/-- pages of all broken loans -/
def bp (m : Nat → Int32) (P LC : Nat) : Nat := fb_sm (fun l => if bk m P l then pc m P (nI l) else 0) LC
def nbk (m : Nat → Int32) (P LC : Nat) : Nat := fb_ct (fun l => bk m P l) LC
/-- the broken loan with the smallest due time -/
def eb (m : Nat → Int32) (P : Nat) : Nat → Option Nat
  | 0 => none
  | l + 1 => if bk m P l then (match eb m P l with
      | none => some l
      | some b => if m (58 + 6 * l + 1) < m (58 + 6 * b + 1) then some l else some b) else eb m P l
def toI : Option Nat → Int32
  | none => -1
  | some b => nI b
def cb (c : OS) (p t : Nat) : Bool := (c.2.2.1 9 (t / 8)).toBitVec.getLsbD (t % 8 * 8 + p)
def mb (m : Nat → Int32) (p t : Nat) : Bool := (m (1342 + 63 * p + t / 32)).toBitVec.getLsbD (t % 32)
/-! class and row, piece by piece -/
def RSc (c : OS) (m : Nat → Int32) : Prop := c.1 0 = m 0 ∧ c.1 1 = m 1 ∧ c.1 3 = m 6 ∧ c.1 4 = m 7 ∧ c.1 5 = m 4 ∧ c.1 8 = m 5
def RHe (c : OS) (m : Nat → Int32) : Prop := c.1 6 = m 2 ∧ c.1 7 = m 3
def ROw (P : Nat) (c : OS) (m : Nat → Int32) : Prop := (∀ k, k < P → c.2.1 10 k = m (538 + k)) ∧ (∀ k, P ≤ k → k < 64 → c.2.1 10 k = -2)
def RFr (P : Nat) (c : OS) (m : Nat → Int32) : Prop := c.1 2 = nI (pc m P (-1))
def RPr (c : OS) (m : Nat → Int32) : Prop := ∀ p, p < 8 → c.2.1 11 (5 * p) = m (10 + 6 * p) ∧ c.2.1 11 (5 * p + 1) = m (10 + 6 * p + 1) ∧ c.2.1 11 (5 * p + 2) = m (10 + 6 * p + 2) ∧ c.2.1 11 (5 * p + 3) = m (10 + 6 * p + 4) ∧ c.2.1 11 (5 * p + 4) = m (10 + 6 * p + 5)
def RLn (P LC : Nat) (c : OS) (m : Nat → Int32) : Prop := ∀ l, l < LC → c.2.1 12 (8 * l) = m (58 + 6 * l) ∧ c.2.1 12 (8 * l + 1) = nI (pc m P (nI l)) ∧ c.2.1 12 (8 * l + 2) = m (58 + 6 * l + 1) ∧ c.2.1 12 (8 * l + 3) = m (58 + 6 * l + 2) ∧ c.2.1 12 (8 * l + 4) = m (58 + 6 * l + 3) ∧ c.2.1 12 (8 * l + 6) = m (58 + 6 * l + 4) ∧ c.2.1 12 (8 * l + 7) = m (58 + 6 * l + 5)
def RCl (CC : Nat) (c : OS) (m : Nat → Int32) : Prop := ∀ q, q < CC → ∀ j, j < 7 → c.2.1 13 (7 * q + j) = m (602 + 7 * q + j)
def RFn (FC : Nat) (c : OS) (m : Nat → Int32) : Prop := ∀ r, r < 40 → r < FC → ∀ j, j < 8 → c.2.1 14 (8 * r + j) = m (1022 + 8 * r + j)
def RSt (T : Nat) (c : OS) (m : Nat → Int32) : Prop := ∀ p, p < 8 → (∀ t, t ≤ 2000 → cb c p t = mb m p t) ∧ (∀ t, t < 2008 → (t = 0 ∨ T < t) → cb c p t = false)
/-! the row alone -/
def ISc (T LC CC FC : Nat) (m : Nat → Int32) : Prop := m 0 = nI T ∧ T ≤ 2000 ∧ (∃ o, o ≤ 2 ∧ m 1 = nI o) ∧ m 6 = nI LC ∧ LC ≤ 80 ∧ m 7 = nI CC ∧ CC ≤ 60 ∧ m 4 = nI FC ∧ FC ≤ 160000
def IHe (T : Nat) (m : Nat → Int32) : Prop := ∃ B, B ≤ T ∧ m 3 = nI B
def IOw (P LC : Nat) (m : Nat → Int32) : Prop := P ≤ 64 ∧ ∀ k, k < P → m (538 + k) = -1 ∨ ∃ l, l < LC ∧ m (538 + k) = nI l
def IPr (m : Nat → Int32) : Prop := ∀ p, p < 8 → (∃ r, r ≤ 999 ∧ m (10 + 6 * p) = nI r) ∧ (∃ b, b ≤ 999 ∧ m (10 + 6 * p + 1) = nI b)
def IMt (CC : Nat) (m : Nat → Int32) : Prop := ∀ p, p < 8 → m (10 + 6 * p + 3) = nI (stp m (nI p) 1 CC)
def ILn (NP D LC : Nat) (m : Nat → Int32) : Prop := ∀ l, l < LC → (∃ p, p < NP ∧ m (58 + 6 * l) = nI p) ∧ (∃ d, d ≤ D ∧ m (58 + 6 * l + 1) = nI d)
def ICl (NP P CC : Nat) (m : Nat → Int32) : Prop := ∀ q, q < CC → (∃ p, p < NP ∧ m (602 + 7 * q) = nI p) ∧ (∃ g, 1 ≤ g ∧ g ≤ P ∧ m (602 + 7 * q + 1) = nI g) ∧ (∃ t, t ≤ 99 ∧ m (602 + 7 * q + 2) = nI t)
def ICt (K LC CC : Nat) (m : Nat → Int32) : Prop := m 8 = nI (stc m 1 CC) ∧ m 9 = nI (stc m 2 CC) ∧ LC ≤ K + stc m 1 CC
def IFn (NP T FC : Nat) (m : Nat → Int32) : Prop := ∀ r, r < 40 → r < FC → (∃ p, p < NP ∧ m (1022 + 8 * r) = nI p) ∧ (∃ w, w ≤ 128000 ∧ m (1022 + 8 * r + 2) = nI w) ∧ (∃ b e, b < e ∧ e ≤ T ∧ m (1022 + 8 * r + 3) = nI b ∧ m (1022 + 8 * r + 4) = nI e) ∧ (∃ a, a ≤ 200 ∧ m (1022 + 8 * r + 5) = nI a)
/-- all but the two words of the hearings -/
def R0 (P NP D K T LC CC FC : Nat) (c : OS) (m : Nat → Int32) : Prop := (RSc c m ∧ ROw P c m ∧ RFr P c m ∧ RPr c m ∧ RLn P LC c m ∧ RCl CC c m ∧ RFn FC c m ∧ RSt T c m) ∧ (ISc T LC CC FC m ∧ IOw P LC m ∧ IPr m ∧ IMt CC m ∧ ILn NP D LC m ∧ ICl NP P CC m ∧ ICt K LC CC m ∧ IFn NP T FC m)
def RR (P NP D T LC CC FC : Nat) (c : OS) (m : Nat → Int32) : Prop := R0 P NP D 20 T LC CC FC c m ∧ RHe c m ∧ IHe T m ∧ FC ≤ 80 * T
/-- the rules: the class's, the model's -/
def Ru (P NP E B F Pt Ap : Nat) (ru M : OS) : Prop := (ru.1 0 = nI P ∧ ru.1 1 = nI NP ∧ ru.1 2 = nI E ∧ ru.1 3 = nI B ∧ ru.1 4 = nI F ∧ ru.1 5 = nI Pt ∧ ru.1 6 = nI Ap) ∧ (M.1 1 = nI P ∧ M.1 2 = nI NP ∧ M.1 3 = nI E ∧ M.1 4 = nI B ∧ M.1 5 = nI F ∧ M.1 6 = nI Pt ∧ M.1 7 = nI Ap) ∧ 4 ≤ P ∧ P ≤ 64 ∧ NP ≤ 8 ∧ 1 ≤ E ∧ E ≤ 50 ∧ 1 ≤ B ∧ B ≤ 100 ∧ 1 ≤ F ∧ F ≤ 99 ∧ 1 ≤ Pt ∧ Pt ≤ 20 ∧ Ap ≤ 99
/-! what depends on which places alone -/
def Sm (a b : Nat) (m m' : Nat → Int32) : Prop := ∀ i, a ≤ i → i < b → m' i = m i
theorem Sm.rf (a b : Nat) (m : Nat → Int32) : Sm a b m m := fun _ _ _ => rfl
theorem Sm.tr {a b : Nat} {m m' m'' : Nat → Int32} (h : Sm a b m m') (h2 : Sm a b m' m'') : Sm a b m m'' := fun i h3 h4 => (h2 i h3 h4).trans (h i h3 h4)
theorem Sm.up {a b k : Nat} {m m' : Nat → Int32} {x : Int32} (h : Sm a b m m') (hk : k < a ∨ b ≤ k) : Sm a b m (upd m' k x) := fun i h3 h4 => (upd_n (by omega)).trans (h i h3 h4)
theorem Sm.nar {a b a2 b2 : Nat} {m m' : Nat → Int32} (h : Sm a b m m') (h1 : a ≤ a2) (h2 : b2 ≤ b) : Sm a2 b2 m m' := fun i h3 h4 => h i (by omega) (by omega)
theorem pc_sm {m m' : Nat → Int32} {P : Nat} (h : Sm 538 602 m m') (hP : P ≤ 64) (v : Int32) : pc m' P v = pc m P v :=
  fb_ct_cong fun k hk => by rw [h (538 + k) (by omega) (by omega)]
theorem bk_sm {m m' : Nat → Int32} {P l : Nat} (h0 : m' 0 = m 0) (h1 : Sm 58 538 m m') (h : Sm 538 602 m m') (hP : P ≤ 64) (hl : l < 80) : bk m' P l = bk m P l := by
  unfold bk
  rw [pc_sm h hP, h0, h1 (58 + 6 * l + 1) (by omega) (by omega)]
theorem wt_sm {m m' : Nat → Int32} {q : Nat} (h : Sm 602 1022 m m') (hq : q < 60) : wt m' q = wt m q := by
  unfold wt
  rw [h (602 + 7 * q + 3) (by omega) (by omega)]
theorem stc_sm {m m' : Nat → Int32} {CC : Nat} (h : Sm 602 1022 m m') (hC : CC ≤ 60) (v : Int32) : stc m' v CC = stc m v CC :=
  fb_ct_cong fun k hk => by rw [h (602 + 7 * k + 3) (by omega) (by omega)]
theorem stp_sm {m m' : Nat → Int32} {CC : Nat} (h : Sm 602 1022 m m') (hC : CC ≤ 60) (p v : Int32) : stp m' p v CC = stp m p v CC :=
  fb_ct_cong fun k hk => by rw [h (602 + 7 * k + 3) (by omega) (by omega), h (602 + 7 * k) (by omega) (by omega)]
theorem RSc.sm {c c' : OS} {m m' : Nat → Int32} (h : RSc c m) (hc : ∀ j, j < 9 → j ≠ 2 → j ≠ 6 → j ≠ 7 → c'.1 j = c.1 j) (hm : ∀ j, j < 8 → j ≠ 2 → j ≠ 3 → m' j = m j) : RSc c' m' := by
  obtain ⟨h1, h2, h3, h4, h5, h6⟩ := h
  refine ⟨?_, ?_, ?_, ?_, ?_, ?_⟩
  · rw [hc 0 (by omega) (by omega) (by omega) (by omega), hm 0 (by omega) (by omega) (by omega), h1]
  · rw [hc 1 (by omega) (by omega) (by omega) (by omega), hm 1 (by omega) (by omega) (by omega), h2]
  · rw [hc 3 (by omega) (by omega) (by omega) (by omega), hm 6 (by omega) (by omega) (by omega), h3]
  · rw [hc 4 (by omega) (by omega) (by omega) (by omega), hm 7 (by omega) (by omega) (by omega), h4]
  · rw [hc 5 (by omega) (by omega) (by omega) (by omega), hm 4 (by omega) (by omega) (by omega), h5]
  · rw [hc 8 (by omega) (by omega) (by omega) (by omega), hm 5 (by omega) (by omega) (by omega), h6]
theorem RHe.sm {c c' : OS} {m m' : Nat → Int32} (h : RHe c m) (h6 : c'.1 6 = c.1 6) (h7 : c'.1 7 = c.1 7) (h2 : m' 2 = m 2) (h3 : m' 3 = m 3) : RHe c' m' := ⟨by rw [h6, h2]; exact h.1, by rw [h7, h3]; exact h.2⟩
theorem ROw.sm {P : Nat} {c c' : OS} {m m' : Nat → Int32} (h : ROw P c m) (hP : P ≤ 64) (hc : c'.2.1 10 = c.2.1 10) (hm : Sm 538 602 m m') : ROw P c' m' :=
  ⟨fun k hk => by rw [hc, hm (538 + k) (by omega) (by omega)]; exact h.1 k hk, fun k h1 h2 => by rw [hc]; exact h.2 k h1 h2⟩
theorem RFr.sm {P : Nat} {c c' : OS} {m m' : Nat → Int32} (h : RFr P c m) (hP : P ≤ 64) (hc : c'.1 2 = c.1 2) (hm : Sm 538 602 m m') : RFr P c' m' := by
  unfold RFr
  rw [hc, pc_sm hm hP]
  exact h
theorem RPr.sm {c c' : OS} {m m' : Nat → Int32} (h : RPr c m) (hc : c'.2.1 11 = c.2.1 11) (hm : Sm 10 58 m m') : RPr c' m' := fun p hp => by
  rw [hc, hm _ (by omega) (by omega), hm _ (by omega) (by omega), hm _ (by omega) (by omega), hm _ (by omega) (by omega), hm _ (by omega) (by omega)]
  exact h p hp
theorem RLn.sm {P LC : Nat} {c c' : OS} {m m' : Nat → Int32} (h : RLn P LC c m) (hP : P ≤ 64) (hL : LC ≤ 80) (hc : c'.2.1 12 = c.2.1 12) (hm : Sm 58 538 m m') (ho : Sm 538 602 m m') : RLn P LC c' m' := fun l hl => by
  rw [hc, pc_sm ho hP, hm _ (by omega) (by omega), hm _ (by omega) (by omega), hm _ (by omega) (by omega), hm _ (by omega) (by omega), hm _ (by omega) (by omega), hm _ (by omega) (by omega)]
  exact h l hl
theorem RCl.sm {CC : Nat} {c c' : OS} {m m' : Nat → Int32} (h : RCl CC c m) (hC : CC ≤ 60) (hc : c'.2.1 13 = c.2.1 13) (hm : Sm 602 1022 m m') : RCl CC c' m' := fun q hq j hj => by
  rw [hc, hm _ (by omega) (by omega)]
  exact h q hq j hj
theorem RFn.sm {FC : Nat} {c c' : OS} {m m' : Nat → Int32} (h : RFn FC c m) (hc : c'.2.1 14 = c.2.1 14) (hm : Sm 1022 1342 m m') : RFn FC c' m' := fun r hr hf j hj => by
  rw [hc, hm _ (by omega) (by omega)]
  exact h r hr hf j hj
theorem mb_sm {m m' : Nat → Int32} (hm : Sm 1342 1846 m m') {p t : Nat} (hp : p < 8) (ht : t ≤ 2000) : mb m' p t = mb m p t := by
  unfold mb
  rw [hm _ (by omega) (by omega)]
theorem RSt.sm {T : Nat} {c c' : OS} {m m' : Nat → Int32} (h : RSt T c m) (hc : c'.2.2.1 9 = c.2.2.1 9) (hm : Sm 1342 1846 m m') : RSt T c' m' := fun p hp => by
  have e : ∀ t, cb c' p t = cb c p t := fun t => by unfold cb; rw [hc]
  exact ⟨fun t ht => by rw [e, mb_sm hm hp ht]; exact (h p hp).1 t ht, fun t ht h2 => by rw [e]; exact (h p hp).2 t ht h2⟩
theorem ISc.sm {T LC CC FC : Nat} {m m' : Nat → Int32} (h : ISc T LC CC FC m) (hm : ∀ j, j < 8 → j ≠ 2 → j ≠ 3 → m' j = m j) : ISc T LC CC FC m' := by
  unfold ISc
  rw [hm 0 (by omega) (by omega) (by omega), hm 1 (by omega) (by omega) (by omega), hm 6 (by omega) (by omega) (by omega), hm 7 (by omega) (by omega) (by omega), hm 4 (by omega) (by omega) (by omega)]
  exact h
theorem IHe.sm {T : Nat} {m m' : Nat → Int32} (h : IHe T m) (hm : m' 3 = m 3) : IHe T m' := by
  unfold IHe
  rw [hm]
  exact h
theorem IOw.sm {P LC : Nat} {m m' : Nat → Int32} (h : IOw P LC m) (hm : Sm 538 602 m m') : IOw P LC m' := ⟨h.1, fun k hk => by
  have := h.1
  rw [hm _ (by omega) (by omega)]
  exact h.2 k hk⟩
theorem IPr.sm {m m' : Nat → Int32} (h : IPr m) (hm : Sm 10 58 m m') : IPr m' := fun p hp => by
  rw [hm _ (by omega) (by omega), hm _ (by omega) (by omega)]
  exact h p hp
theorem IMt.sm {CC : Nat} {m m' : Nat → Int32} (h : IMt CC m) (hC : CC ≤ 60) (hm : Sm 10 58 m m') (hc : Sm 602 1022 m m') : IMt CC m' := fun p hp => by
  rw [hm _ (by omega) (by omega), stp_sm hc hC]
  exact h p hp
theorem ILn.sm {NP D LC : Nat} {m m' : Nat → Int32} (h : ILn NP D LC m) (hL : LC ≤ 80) (hm : Sm 58 538 m m') : ILn NP D LC m' := fun l hl => by
  rw [hm _ (by omega) (by omega), hm _ (by omega) (by omega)]
  exact h l hl
theorem ICl.sm {NP P CC : Nat} {m m' : Nat → Int32} (h : ICl NP P CC m) (hC : CC ≤ 60) (hm : Sm 602 1022 m m') : ICl NP P CC m' := fun q hq => by
  rw [hm _ (by omega) (by omega), hm _ (by omega) (by omega), hm _ (by omega) (by omega)]
  exact h q hq
theorem ICt.sm {K LC CC : Nat} {m m' : Nat → Int32} (h : ICt K LC CC m) (hC : CC ≤ 60) (h8 : m' 8 = m 8) (h9 : m' 9 = m 9) (hm : Sm 602 1022 m m') : ICt K LC CC m' := by
  unfold ICt
  rw [h8, h9, stc_sm hm hC, stc_sm hm hC]
  exact h
theorem IFn.sm {NP T FC : Nat} {m m' : Nat → Int32} (h : IFn NP T FC m) (hm : Sm 1022 1342 m m') : IFn NP T FC m' := fun r hr hf => by
  rw [hm _ (by omega) (by omega), hm _ (by omega) (by omega), hm _ (by omega) (by omega), hm _ (by omega) (by omega), hm _ (by omega) (by omega)]
  exact h r hr hf
theorem ovl0_sm {m : Nat → Int32} {a b : Nat} {m' : Nat → Int32} (h : ∀ i, (i < 538 ∨ 602 ≤ i) → m' i = m i) (hb : b ≤ 538 ∨ 602 ≤ a) : Sm a b m m' := fun i h1 h2 => h i (by omega)
theorem R0.L80 {P NP D K T LC CC FC : Nat} {c : OS} {m : Nat → Int32} (h : R0 P NP D K T LC CC FC c m) : LC ≤ 80 := h.2.1.2.2.2.2.1
theorem R0.C60 {P NP D K T LC CC FC : Nat} {c : OS} {m : Nat → Int32} (h : R0 P NP D K T LC CC FC c m) : CC ≤ 60 := h.2.1.2.2.2.2.2.2.1
theorem R0.loans {P NP D K T LC CC FC : Nat} {c : OS} {m : Nat → Int32} (h : R0 P NP D K T LC CC FC c m) : c.1 3 = nI LC := h.1.1.2.2.1.trans h.2.1.2.2.2.1
theorem R0.claims {P NP D K T LC CC FC : Nat} {c : OS} {m : Nat → Int32} (h : R0 P NP D K T LC CC FC c m) : c.1 4 = nI CC := h.1.1.2.2.2.1.trans h.2.1.2.2.2.2.2.1
theorem R0.time {P NP D K T LC CC FC : Nat} {c : OS} {m : Nat → Int32} (h : R0 P NP D K T LC CC FC c m) : m 0 = nI T ∧ c.1 0 = nI T ∧ T ≤ 2000 := ⟨h.2.1.1, h.1.1.1.trans h.2.1.1, h.2.1.2.1⟩
theorem R0.mloans {P NP D K T LC CC FC : Nat} {c : OS} {m : Nat → Int32} (h : R0 P NP D K T LC CC FC c m) : m 6 = nI LC := h.2.1.2.2.2.1
theorem R0.mclaims {P NP D K T LC CC FC : Nat} {c : OS} {m : Nat → Int32} (h : R0 P NP D K T LC CC FC c m) : m 7 = nI CC := h.2.1.2.2.2.2.2.1
theorem R0.mfines {P NP D K T LC CC FC : Nat} {c : OS} {m : Nat → Int32} (h : R0 P NP D K T LC CC FC c m) : m 4 = nI FC ∧ c.1 5 = nI FC ∧ FC ≤ 160000 := ⟨h.2.1.2.2.2.2.2.2.2.1, h.1.1.2.2.2.2.1.trans h.2.1.2.2.2.2.2.2.2.1, h.2.1.2.2.2.2.2.2.2.2⟩
theorem R0.P64 {P NP D K T LC CC FC : Nat} {c : OS} {m : Nat → Int32} (h : R0 P NP D K T LC CC FC c m) : P ≤ 64 := h.2.2.1.1
theorem R0.ext {P NP D K T LC CC FC : Nat} {c c' : OS} {m m' : Nat → Int32} (h : R0 P NP D K T LC CC FC c m) (h1 : ∀ j, j < 9 → j ≠ 6 → j ≠ 7 → c'.1 j = c.1 j) (h2 : ∀ j, 10 ≤ j → j < 15 → c'.2.1 j = c.2.1 j) (h3 : c'.2.2.1 9 = c.2.2.1 9) (hm : ∀ j, j ≠ 2 → j ≠ 3 → j < 1846 → m' j = m j) : R0 P NP D K T LC CC FC c' m' := by
  have h80 := h.L80
  have h60 := h.C60
  obtain ⟨⟨hsc, how, hfr, hpr, hln, hcl, hfn, hst⟩, ⟨isc, iow, ipr, imt, iln, icl, ict, ifn⟩⟩ := h
  have sm : ∀ a b, 4 ≤ a → b ≤ 1846 → Sm a b m m' := fun a b ha hb i hi hj => hm i (by omega) (by omega) (by omega)
  have s0 : ∀ j, j < 8 → j ≠ 2 → j ≠ 3 → m' j = m j := fun j hj h4 h5 => hm j h4 h5 (by omega)
  have smo := sm 538 602 (by omega) (by omega)
  have smc := sm 602 1022 (by omega) (by omega)
  have hP := iow.1
  exact ⟨⟨hsc.sm (fun j a1 a2 a3 a4 => h1 j a1 a3 a4) s0, how.sm hP (h2 10 (by omega) (by omega)) smo, hfr.sm hP (h1 2 (by omega) (by omega) (by omega)) smo, hpr.sm (h2 11 (by omega) (by omega)) (sm 10 58 (by omega) (by omega)), hln.sm hP h80 (h2 12 (by omega) (by omega)) (sm 58 538 (by omega) (by omega)) smo, hcl.sm h60 (h2 13 (by omega) (by omega)) smc, hfn.sm (h2 14 (by omega) (by omega)) (sm 1022 1342 (by omega) (by omega)), hst.sm h3 (sm 1342 1846 (by omega) (by omega))⟩,
      ⟨isc.sm s0, iow.sm smo, ipr.sm (sm 10 58 (by omega) (by omega)), imt.sm h60 (sm 10 58 (by omega) (by omega)) smc, iln.sm h80 (sm 58 538 (by omega) (by omega)), icl.sm h60 smc, ict.sm h60 (hm 8 (by omega) (by omega) (by omega)) (hm 9 (by omega) (by omega) (by omega)) smc, ifn.sm (sm 1022 1342 (by omega) (by omega))⟩⟩
