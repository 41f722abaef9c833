/-! the law's text is fed: twenty bytes at a time -/
section P58_pC
variable {P NP D D2 K T LC CC FC E Bs F Pt Ap n : Nat} {c x inp ou ru no rd M : OS} {pa : PS} {so : Option OS} {sv : Value} {p3 : Nat → Int64} {m : Nat → Int32}
def pC (inp : OS) (k : Nat) (x : Int32) : OS := sI (sA inp 0 (upd (inp.2.1 0) k (vp_nar .byte (x.toInt8.toInt32)))) 1 (nI (k + 1))
end P58_pC
theorem bput9 {n k : Nat} {inp : OS} (h : inp.1 1 = nI k) (hk : k < 600) (v : Int32) : f_X1_put n 600 inp v = some (pC inp k v) := by
  unfold f_X1_put
  rw [h, if_neg (nI_pos (by omega)), if_neg (show ¬ Int32.ofNat 600 ≤ nI k from nI_ge (a := k) (b := 600) hk (by decide)), egN hk (by decide), eLet, nI_clamp (by omega), eLet, sA_1, h, nI_1]
  rfl
theorem nar9 (x : Int32) : vp_nar .byte (x.toInt8.toInt32) = by8 (x.toBitVec.toNat % 256) := by
  rw [pk_vb]
  show x.toInt8.toInt32 = (nI (x.toBitVec.toNat % 256)).toInt8.toInt32
  congr 1
  apply Int8.toBitVec_inj.mp
  show x.toBitVec.signExtend 8 = (BitVec.ofNat 32 (x.toBitVec.toNat % 256)).signExtend 8
  rw [BitVec.signExtend_eq_setWidth_of_le _ (by decide), BitVec.signExtend_eq_setWidth_of_le _ (by decide)]
  apply BitVec.eq_of_toNat_eq
  rw [BitVec.toNat_setWidth, BitVec.toNat_setWidth, BitVec.toNat_ofNat]
  omega
theorem nI_bits {a : Nat} (h : a < 2 ^ 32) : (nI a).toBitVec.toNat = a := by
  show (BitVec.ofNat 32 a).toNat = a
  rw [BitVec.toNat_ofNat]
  omega
theorem nI_or (a b : Nat) : nI a ||| nI b = nI (a ||| b) := by
  apply Int32.toBitVec_inj.mp
  rw [Int32.toBitVec_or]
  show BitVec.ofNat 32 a ||| BitVec.ofNat 32 b = BitVec.ofNat 32 (a ||| b)
  apply BitVec.eq_of_toNat_eq
  rw [BitVec.toNat_or, BitVec.toNat_ofNat, BitVec.toNat_ofNat, BitVec.toNat_ofNat]
  exact (Nat.or_mod_two_pow (a := a) (b := b) (n := 32)).symm
theorem nI_or_sum {a k : Nat} (b : Nat) (h : a < 2 ^ k) : nI (2 ^ k * b) ||| nI a = nI (2 ^ k * b + a) := by rw [nI_or, Nat.two_pow_add_eq_or_of_lt h]
theorem word9 {b0 b1 b2 b3 : Nat} (h0 : b0 < 128) (h1 : b1 < 128) (h2 : b2 < 128) (h3 : b3 < 128) : (((((0 : Int32) ||| (nI b0 <<< (nI 24 &&& 31))) ||| (nI b1 <<< (nI 16 &&& 31))) ||| (nI b2 <<< (nI 8 &&& 31))) ||| (nI b3 <<< (nI 0 &&& 31))) = nI (2 ^ 24 * b0 + 2 ^ 16 * b1 + 2 ^ 8 * b2 + b3) := by
  rw [pk_shlN (n := b0) (nI 24 &&& 31) 24 (by decide) (by omega), pk_shlN (n := b1) (nI 16 &&& 31) 16 (by decide) (by omega), pk_shlN (n := b2) (nI 8 &&& 31) 8 (by decide) (by omega), pk_shlN (n := b3) (nI 0 &&& 31) 0 (by decide) (by omega)]
  rw [show (0 : Int32) = nI 0 from rfl, nI_or, Nat.zero_or, show b0 * 2 ^ 24 = 2 ^ 24 * b0 by omega, nI_or_sum (k := 24) b0 (by omega), show 2 ^ 24 * b0 + b1 * 2 ^ 16 = 2 ^ 16 * (2 ^ 8 * b0 + b1) by omega, nI_or_sum (k := 16) _ (by omega), show 2 ^ 16 * (2 ^ 8 * b0 + b1) + b2 * 2 ^ 8 = 2 ^ 8 * (2 ^ 8 * (2 ^ 8 * b0 + b1) + b2) by omega, nI_or_sum (k := 8) _ (by omega)]
  exact congrArg nI (by omega)
section FEED9
variable {n : Nat} {inp : OS}
/-- a word of four letters is put behind the bytes -/
theorem putWord9 {k b0 b1 b2 b3 : Nat} (h : inp.1 1 = nI k) (hk : k + 4 ≤ 600) (h0 : b0 < 128) (h1 : b1 < 128) (h2 : b2 < 128) (h3 : b3 < 128) : ∃ y, f_X1_putWord n 600 inp (nI (2 ^ 24 * b0 + 2 ^ 16 * b1 + 2 ^ 8 * b2 + b3)) = some y ∧ y.1 1 = nI (k + 4) ∧ (∀ i, i < k → y.2.1 0 i = inp.2.1 0 i) ∧ y.2.1 0 k = by8 b0 ∧ y.2.1 0 (k + 1) = by8 b1 ∧ y.2.1 0 (k + 2) = by8 b2 ∧ y.2.1 0 (k + 3) = by8 b3 := by
  obtain ⟨V, hV⟩ : ∃ V, V = 2 ^ 24 * b0 + 2 ^ 16 * b1 + 2 ^ 8 * b2 + b3 := ⟨_, rfl⟩
  rw [← hV]
  have s0 : nI V >>> ((24 : Int32) &&& 31) = nI (V / 2 ^ 24) := pk_shrN (by omega) _ 24 (by decide)
  have s1 : nI V >>> ((16 : Int32) &&& 31) = nI (V / 2 ^ 16) := pk_shrN (by omega) _ 16 (by decide)
  have s2 : nI V >>> ((8 : Int32) &&& 31) = nI (V / 2 ^ 8) := pk_shrN (by omega) _ 8 (by decide)
  have by_ : ∀ x : Nat, x < 2 ^ 32 → vp_nar .byte ((nI x).toInt8.toInt32) = by8 (x % 256) := fun x hx => by rw [nar9, nI_bits hx]
  refine ⟨pC (pC (pC (pC inp k (nI (V / 2 ^ 24))) (k + 1) (nI (V / 2 ^ 16))) (k + 2) (nI (V / 2 ^ 8))) (k + 3) (nI V), ?_, rfl, fun i hi => ?_, ?_, ?_, ?_, ?_⟩
  · unfold f_X1_putWord
    rw [s0, s1, s2, bput9 h (by omega), ebnd, bput9 (k := k + 1) rfl (by omega), ebnd, bput9 (k := k + 2) rfl (by omega), ebnd, bput9 (k := k + 3) rfl (by omega), ebnd]
  · show upd (upd (upd (upd (inp.2.1 0) k _) (k + 1) _) (k + 2) _) (k + 3) _ i = _
    rw [upd_n (by omega), upd_n (by omega), upd_n (by omega), upd_n (by omega)]
  · show upd (upd (upd (upd (inp.2.1 0) k _) (k + 1) _) (k + 2) _) (k + 3) _ k = _
    rw [upd_n (by omega), upd_n (by omega), upd_n (by omega), upd_s, by_ _ (by omega)]
    exact congrArg by8 (by omega)
  · show upd (upd (upd (upd (inp.2.1 0) k _) (k + 1) _) (k + 2) _) (k + 3) _ (k + 1) = _
    rw [upd_n (by omega), upd_n (by omega), upd_s, by_ _ (by omega)]
    exact congrArg by8 (by omega)
  · show upd (upd (upd (upd (inp.2.1 0) k _) (k + 1) _) (k + 2) _) (k + 3) _ (k + 2) = _
    rw [upd_n (by omega), upd_s, by_ _ (by omega)]
    exact congrArg by8 (by omega)
  · show upd (upd (upd (upd (inp.2.1 0) k _) (k + 1) _) (k + 2) _) (k + 3) _ (k + 3) = _
    rw [upd_s, by_ _ (by omega)]
    exact congrArg by8 (by omega)
def chB (t : Nat → Nat) (n9 i : Nat) : Nat := if i < n9 then t i else 32
theorem chI_B (t : Nat → Nat) (n9 i : Nat) : chI t n9 i = nI (chB t n9 i) := by
  unfold chI chB
  split <;> rfl
theorem gW_is (t : Nat → Nat) (n9 a : Nat) (hb : ∀ i, chB t n9 i < 128) : ∀ j, j < 5 → gW t n9 a 20 j = nI (2 ^ 24 * chB t n9 (a + 4 * j) + 2 ^ 16 * chB t n9 (a + 4 * j + 1) + 2 ^ 8 * chB t n9 (a + 4 * j + 2) + chB t n9 (a + 4 * j + 3)) := fun j hj => by
  have h : j = 0 ∨ j = 1 ∨ j = 2 ∨ j = 3 ∨ j = 4 := by omega
  rw [← word9 (hb _) (hb _) (hb _) (hb _), ← chI_B, ← chI_B, ← chI_B, ← chI_B]
  rcases h with rfl | rfl | rfl | rfl | rfl <;> rfl
/-- g words of twenty bytes are fed -/
def Bt (t : Nat → Nat) (n9 g : Nat) (y : OS) : Prop := y.1 1 = nI (20 * g) ∧ ∀ i, i < 20 * g → y.2.1 0 i = by8 (chB t n9 i)
theorem put_more {t : Nat → Nat} {n9 k : Nat} {y : OS} (h : y.1 1 = nI k) (hk : k + 4 ≤ 600) (hb : ∀ i, chB t n9 i < 128) (hB : ∀ i, i < k → y.2.1 0 i = by8 (chB t n9 i)) : ∃ y2, f_X1_putWord n 600 y (nI (2 ^ 24 * chB t n9 k + 2 ^ 16 * chB t n9 (k + 1) + 2 ^ 8 * chB t n9 (k + 2) + chB t n9 (k + 3))) = some y2 ∧ y2.1 1 = nI (k + 4) ∧ ∀ i, i < k + 4 → y2.2.1 0 i = by8 (chB t n9 i) := by
  obtain ⟨y2, a1, a2, a3, c0, c1, c2, c3⟩ := putWord9 (n := n) h hk (hb k) (hb (k + 1)) (hb (k + 2)) (hb (k + 3))
  refine ⟨y2, a1, a2, fun i hi => ?_⟩
  have hc : i < k ∨ i = k ∨ i = k + 1 ∨ i = k + 2 ∨ i = k + 3 := by omega
  rcases hc with c | rfl | rfl | rfl | rfl
  · exact (a3 i c).trans (hB i c)
  · exact c0
  · exact c1
  · exact c2
  · exact c3
theorem feed9 {t : Nat → Nat} {n9 : Nat} (hb : ∀ i, chB t n9 i < 128) (sv : Value) (th : OS) : ∀ g, g ≤ 13 → ∃ y, feedF n sv th t n9 zOS g = some y ∧ Bt t n9 g y
  | 0, _ => ⟨zOS, rfl, rfl, fun i hi => absurd hi (by omega)⟩
  | g + 1, hg => by
    obtain ⟨y, e, h1, h2⟩ := feed9 hb sv th g (by omega)
    obtain ⟨y1, a1, a2, a3⟩ := put_more (n := n) h1 (by omega) hb h2
    obtain ⟨y2, b1, b2, b3⟩ := put_more (n := n) a2 (by omega) hb a3
    obtain ⟨y3, c1, c2, c3⟩ := put_more (n := n) b2 (by omega) hb b3
    obtain ⟨y4, d1, d2, d3⟩ := put_more (n := n) c2 (by omega) hb c3
    obtain ⟨y5, f1, f2, f3⟩ := put_more (n := n) d2 (by omega) hb d3
    refine ⟨y5, ?_, f2, f3⟩
    show bnd (feedF n sv th t n9 zOS g) _ = _
    have w0 := gW_is t n9 (20 * g) hb 0 (by omega)
    rw [show 20 * g + 4 * 0 = 20 * g by omega] at w0
    have w1 := gW_is t n9 (20 * g) hb 1 (by omega)
    rw [show 20 * g + 4 * 1 = 20 * g + 4 by omega] at w1
    have w2 := gW_is t n9 (20 * g) hb 2 (by omega)
    rw [show 20 * g + 4 * 2 = 20 * g + 4 + 4 by omega] at w2
    have w3 := gW_is t n9 (20 * g) hb 3 (by omega)
    rw [show 20 * g + 4 * 3 = 20 * g + 4 + 4 + 4 by omega] at w3
    have w4 := gW_is t n9 (20 * g) hb 4 (by omega)
    rw [show 20 * g + 4 * 4 = 20 * g + 4 + 4 + 4 + 4 by omega] at w4
    rw [e, ebnd, w0, w1, w2, w3, w4]
    unfold f_X8_feed
    rw [h1, show nI (20 * g) + (20 : Int32) = nI (20 * g + 20) from nI_add (20 * g) 20, if_pos (show nI (20 * g + 20) ≤ (600 : Int32) from nI_le (a := 20 * g + 20) (b := 600) (by omega) (by decide))]
    rw [a1, ebnd, b1, ebnd, c1, ebnd, d1, ebnd, f1, ebnd, ebnd2]
theorem small_text {P q e0 e1 e2 e3 e4 : Nat} {o : Int32} (hP : P ≤ 100) (hq : q ≤ 8) (h0 : e0 ≤ 100) (h1 : e1 ≤ 100) (h2 : e2 ≤ 100) (h3 : e3 ≤ 100) (h4 : e4 ≤ 100) : ∀ c ∈ setupL P q e0 e1 e2 e3 e4 o, c < 128 := by
  have sl : ∀ i : Fin 25, ∀ c ∈ sLst (nI i.val), c < 128 := by decide +kernel
  have sl' : ∀ i, i < 25 → ∀ c ∈ sLst (nI i), c < 128 := fun i hi => sl ⟨i, hi⟩
  have nm : ∀ v : Fin 101, ∀ c ∈ sx_num v.val, c < 128 := by decide +kernel
  have nm' : ∀ v, v ≤ 100 → ∀ c ∈ sx_num v, c < 128 := fun v hv => nm ⟨v, by omega⟩
  have one : ∀ x, x < 128 → ∀ c ∈ [x], c < 128 := fun x hx c hc => by rw [List.mem_singleton.mp hc]; exact hx
  have ap : ∀ X Y : List Nat, (∀ c ∈ X, c < 128) → (∀ c ∈ Y, c < 128) → ∀ c ∈ X ++ Y, c < 128 := fun X Y hx hy c hc => by
    rcases List.mem_append.mp hc with z | z
    · exact hx c z
    · exact hy c z
  have pr : ∀ p, p ≤ 8 → ∀ c ∈ procL p, c < 128 := fun p => by
    induction p with
    | zero => exact fun _ c hc => absurd hc List.not_mem_nil
    | succ p ih => exact fun hp => ap _ _ (ap _ _ (ap _ _ (ih (by omega)) (sl' 16 (by omega))) (one _ (by omega))) (one 59 (by omega))
  have od : ∀ c ∈ sLst (ordX o), c < 128 := by
    unfold ordX
    split
    · exact sl' 22 (by omega)
    · split
      · exact sl' 23 (by omega)
      · exact sl' 24 (by omega)
  have hd : ∀ c ∈ headL P, c < 128 := ap _ _ (ap _ _ (sl' 15 (by omega)) (nm' P hP)) (one 59 (by omega))
  have a0 := ap _ _ (ap _ _ (ap _ _ hd (pr q hq)) (sl' 17 (by omega))) (nm' e0 h0)
  have a1 := ap _ _ (ap _ _ a0 (sl' 18 (by omega))) (nm' e1 h1)
  have a2 := ap _ _ (ap _ _ a1 (sl' 19 (by omega))) (nm' e2 h2)
  have a3 := ap _ _ (ap _ _ a2 (sl' 20 (by omega))) (nm' e3 h3)
  have a4 := ap _ _ (ap _ _ (ap _ _ a3 (sl' 21 (by omega))) (nm' e4 h4)) (one 59 (by omega))
  exact ap _ _ a4 od
end FEED9
