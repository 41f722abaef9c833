/-! a hearing's fines -/
theorem nI_p2 (k : Nat) : nI k + (2 : Int32) = nI (k + 2) := nI_add k 2
theorem nI_p3 (k : Nat) : nI k + (3 : Int32) = nI (k + 3) := nI_add k 3
theorem nI_p4 (k : Nat) : nI k + (4 : Int32) = nI (k + 4) := nI_add k 4
theorem nI_p5 (k : Nat) : nI k + (5 : Int32) = nI (k + 5) := nI_add k 5
theorem nI_p6 (k : Nat) : nI k + (6 : Int32) = nI (k + 6) := nI_add k 6
theorem nI_p7 (k : Nat) : nI k + (7 : Int32) = nI (k + 7) := nI_add k 7
theorem rz {β : Type} {k : Nat} {m : Nat → Int32} {f : Int32 → Option β} (h : k < 1846) : gI 1846 (nI k) (Let (m (nI k).toNatClampNeg) f) = f (m k) := by
  rw [egN h (by decide), eLet, nI_clamp (by omega)]
theorem wz {β : Type} {k : Nat} {M : OS} {u : Nat → Int32} {x : Int32} {f : OS → Option β} (h : k < 1846) : gI 1846 (nI k) (Let (sA M 9 (upd u (nI k).toNatClampNeg x)) f) = f (sA M 9 (upd u k x)) := by
  rw [egN h (by decide), eLet, nI_clamp (by omega)]
theorem maxI {a b : Nat} (ha : a < 2 ^ 31) (hb : b < 2 ^ 31) : (if nI a < nI b then nI b else nI a) = nI (max a b) := by
  by_cases h : a < b
  · rw [if_pos (nI_lt h hb), Nat.max_eq_right (by omega)]
  · rw [if_neg (nI_nlt (by omega) ha), Nat.max_eq_left (by omega)]
theorem minI {a b : Nat} (ha : a < 2 ^ 31) (hb : b < 2 ^ 31) : (if nI a < nI b then nI a else nI b) = nI (min a b) := by
  by_cases h : a < b
  · rw [if_pos (nI_lt h hb), Nat.min_eq_left (by omega)]
  · rw [if_neg (nI_nlt (by omega) ha), Nat.min_eq_right (by omega)]
theorem m_greater {n a b : Nat} (ha : a < 2 ^ 31) (hb : b < 2 ^ 31) : f_X9_greater n (nI a) (nI b) = some (nI (max a b)) := by
  unfold f_X9_greater
  by_cases h : a ≤ b
  · rw [if_pos (nI_le h hb), Nat.max_eq_right h]
  · rw [if_neg (nI_ge (by omega) ha), Nat.max_eq_left (by omega)]
theorem m_lesser {n a b : Nat} (ha : a < 2 ^ 31) (hb : b < 2 ^ 31) : f_X9_lesser n (nI a) (nI b) = some (nI (min a b)) := by
  unfold f_X9_lesser
  by_cases h : b ≤ a
  · rw [if_pos (nI_le h ha), Nat.min_eq_right h]
  · rw [if_neg (nI_ge (by omega) hb), Nat.min_eq_left (by omega)]
theorem up_nI {x d : Nat} (hx : x + d < 2 ^ 31) (hd : 0 < d) : ((nI x + nI d) - (1 : Int32)) / nI d = nI ((x + d - 1) / d) := by
  obtain ⟨e, rfl⟩ : ∃ e, d = e + 1 := ⟨d - 1, by omega⟩
  rw [nI_add, ← Nat.add_assoc, nI_pred, pk_div (by omega) hd (by omega)]
  rfl
theorem m_upwards {n x d : Nat} (hx : x + d < 2 ^ 31) (hd : 0 < d) : f_X9_upwards n (nI x) (nI d) = some (nI ((x + d - 1) / d)) := by
  unfold f_X9_upwards
  rw [eoN (nI_ne0 hd (by omega)), up_nI hx hd]
theorem c_quotientUp {n x d : Nat} (hx : x + d < 2 ^ 31) (hd : 0 < d) : f_X2_quotientUp n (nI x) (nI d) = some (nI ((x + d - 1) / d)) := by
  unfold f_X2_quotientUp
  rw [if_neg (nI_nle hd (by omega)), eoN (nI_ne0 hd (by omega)), up_nI hx hd]
/-- the numbers of a fine -/
def fw (T B d g : Nat) : Nat := (T - max d B) * g
def fam (T B d g r Bs : Nat) : Nat := min 200 ((fw T B d g * (Bs + r) + 100 - 1) / 100)
theorem fw_le {T B d g : Nat} (hT : T ≤ 2000) (hg : g ≤ 64) : fw T B d g ≤ 128000 := by
  unfold fw
  have h1 : T - max d B ≤ 2000 := by omega
  exact Nat.mul_le_mul h1 hg
theorem fx_le {w r Bs : Nat} (hw : w ≤ 128000) (hr : r ≤ 999) (hB : Bs ≤ 100) : w * (Bs + r) ≤ 140672000 := by
  have h1 : Bs + r ≤ 1099 := by omega
  exact Nat.mul_le_mul hw h1
def finedC (c : OS) (f p l w b e a nb nr : Nat) : OS := sA (fineC c f (nI p) (nI l) (nI w) (nI b) (nI e) (nI a)) 11 (upd (upd (upd (c.2.1 11) (5 * p + 3) (c.2.1 11 (5 * p + 3) + 1)) (5 * p + 1) (nI nb)) (5 * p) (nI nr))
def finedM (m : Nat → Int32) (f p l w b e a nb nr : Nat) : Nat → Int32 := fineM (upd (upd (upd m (10 + 6 * p + 1) (nI nb)) (10 + 6 * p) (nI nr)) (10 + 6 * p + 4) (m (10 + 6 * p + 4) + 1)) f (nI p) (nI l) (nI w) (nI b) (nI e) (nI a)
/-- what the model changes as it goes on: its row, its line, the fines that it watches -/
def Fr (M M' : OS) : Prop := (∀ j, j ≠ 18 → j ≠ 20 → M'.1 j = M.1 j) ∧ (∀ j, j ≠ 9 → j ≠ 21 → M'.2.1 j = M.2.1 j) ∧ M'.2.2 = M.2.2
theorem Fr.rf (M : OS) : Fr M M := ⟨fun _ _ _ => rfl, fun _ _ _ => rfl, rfl⟩
theorem Fr.tr {M M1 M2 : OS} (h : Fr M M1) (h2 : Fr M1 M2) : Fr M M2 := ⟨fun j a b => (h2.1 j a b).trans (h.1 j a b), fun j a b => (h2.2.1 j a b).trans (h.2.1 j a b), h2.2.2.trans h.2.2⟩
theorem Fr.row (M : OS) (u : Nat → Int32) : Fr M (sA M 9 u) := ⟨fun _ _ _ => rfl, fun _ h _ => if_neg h, rfl⟩
/-- steps by which a row becomes another one in a tick -/
def Pst (m m' : Nat → Int32) : Prop := (∀ j, j < 10 ∨ (58 ≤ j ∧ j < 1342) → m' j = m j) ∧ ∀ a, a < 8 → m' (10 + 6 * a + 3) = m (10 + 6 * a + 3) ∧ m' (10 + 6 * a + 4) = m (10 + 6 * a + 4) ∧ (m' (10 + 6 * a + 2) = m (10 + 6 * a + 2) ∨ (¬ m (10 + 6 * a + 2) ≤ 0 ∧ m' (10 + 6 * a + 2) = m (10 + 6 * a + 2) + -1))
def takM (m : Nat → Int32) (P l t : Nat) : Nat → Int32 := upd (upd (relM m P l t) (58 + 6 * l + 4) (relM m P l t (58 + 6 * l + 4) + nI t)) 5 (relM m P l t 5 + nI t)
def Clo (P NP CC : Nat) (J : Nat → Nat → Nat → (Nat → Int32) → Prop) : Prop :=
  (∀ T LC FC m m', J T LC FC m → (∀ j, j ≠ 2 → j ≠ 3 → j < 1846 → m' j = m j) → J T LC FC m') ∧
  (∀ T LC FC m, J T LC FC m → J (T + 1) LC FC (upd m 0 (nI (T + 1)))) ∧
  (∀ T LC FC m m', J T LC FC m → Pst m m' → J T LC FC m') ∧
  (∀ T LC FC m p l w b a nb nr, J T LC FC m → l < LC → p < NP → p < 8 → J T LC (FC + 1) (finedM m FC p l w b T a nb nr)) ∧
  (∀ T LC FC m l t, J T LC FC m → l < LC → LC ≤ 80 → P ≤ 64 → t ≤ pc m P (nI l) → J T LC FC (takM m P l t)) ∧
  (∀ T LC FC m q p g t, J T LC FC m → q < CC → CC ≤ 60 → LC < 80 → P ≤ 64 → wt m q = true → p < NP → p < 8 → m (602 + 7 * q) = nI p → g ≤ 64 → g ≤ pc m P (-1) → J T (LC + 1) FC (lendM (metM m q p (nI LC)) P LC (nI p) g (nI (T + t)) (nI T) (nI q))) ∧
  (∀ T LC FC m m' q, J T LC FC m → q < CC → CC ≤ 60 → wt m q = true → (∀ j, j ≠ 602 + 7 * q + 3 → j ≠ 602 + 7 * q + 4 → j ≠ 9 → m' j = m j) → (m' (602 + 7 * q + 3) = 0 ∨ m' (602 + 7 * q + 3) = 2) → J T LC FC m')
def Rch (P NP CC T LC FC : Nat) (m : Nat → Int32) (T' LC' FC' : Nat) (m' : Nat → Int32) : Prop := ∀ J, Clo P NP CC J → J T LC FC m → J T' LC' FC' m'
section RCH
variable {P NP CC T LC FC T1 LC1 FC1 T2 LC2 FC2 : Nat} {m m1 m2 : Nat → Int32}
theorem Rch.rf : Rch P NP CC T LC FC m T LC FC m := fun _ _ h => h
theorem Rch.tr (h : Rch P NP CC T LC FC m T1 LC1 FC1 m1) (h2 : Rch P NP CC T1 LC1 FC1 m1 T2 LC2 FC2 m2) : Rch P NP CC T LC FC m T2 LC2 FC2 m2 := fun J c j => h2 J c (h J c j)
theorem Rch.ext (h : ∀ j, j ≠ 2 → j ≠ 3 → j < 1846 → m1 j = m j) : Rch P NP CC T LC FC m T LC FC m1 := fun _ c j => c.1 _ _ _ _ _ j h
theorem Rch.tick : Rch P NP CC T LC FC m (T + 1) LC FC (upd m 0 (nI (T + 1))) := fun _ c j => c.2.1 _ _ _ _ j
theorem Rch.proc (h : Pst m m1) : Rch P NP CC T LC FC m T LC FC m1 := fun _ c j => c.2.2.1 _ _ _ _ _ j h
theorem Rch.fine {p l w b a nb nr : Nat} (hl : l < LC) (hp : p < NP) (hp8 : p < 8) : Rch P NP CC T LC FC m T LC (FC + 1) (finedM m FC p l w b T a nb nr) := fun _ c j => c.2.2.2.1 _ _ _ _ _ _ _ _ _ _ _ j hl hp hp8
theorem Rch.take {l t : Nat} (hl : l < LC) (h80 : LC ≤ 80) (h64 : P ≤ 64) (ht : t ≤ pc m P (nI l)) : Rch P NP CC T LC FC m T LC FC (takM m P l t) := fun _ c j => c.2.2.2.2.1 _ _ _ _ _ _ j hl h80 h64 ht
theorem Rch.meet {q p g t : Nat} (hq : q < CC) (h60 : CC ≤ 60) (h80 : LC < 80) (h64 : P ≤ 64) (hw : wt m q = true) (hp : p < NP) (hp8 : p < 8) (hpo : m (602 + 7 * q) = nI p) (hg : g ≤ 64) (hgf : g ≤ pc m P (-1)) : Rch P NP CC T LC FC m T (LC + 1) FC (lendM (metM m q p (nI LC)) P LC (nI p) g (nI (T + t)) (nI T) (nI q)) := fun _ c j => c.2.2.2.2.2.1 _ _ _ _ _ _ _ _ j hq h60 h80 h64 hw hp hp8 hpo hg hgf
theorem Rch.put {q : Nat} (hq : q < CC) (h60 : CC ≤ 60) (hw : wt m q = true) (hm : ∀ j, j ≠ 602 + 7 * q + 3 → j ≠ 602 + 7 * q + 4 → j ≠ 9 → m1 j = m j) (hv : m1 (602 + 7 * q + 3) = 0 ∨ m1 (602 + 7 * q + 3) = 2) : Rch P NP CC T LC FC m T LC FC m1 := fun _ c j => c.2.2.2.2.2.2 _ _ _ _ _ _ j hq h60 hw hm hv
end RCH
section FINES
variable {P NP D K T LC CC FC E Bs F Pt Ap n : Nat} {c ru M : OS} {m : Nat → Int32}
theorem Ru.fr {M' : OS} (h : Ru P NP E Bs F Pt Ap ru M) (hf : ∀ j, 1 ≤ j → j ≤ 7 → M'.1 j = M.1 j) : Ru P NP E Bs F Pt Ap ru M' := by
  unfold Ru at *
  rw [hf 1 (by omega) (by omega), hf 2 (by omega) (by omega), hf 3 (by omega) (by omega), hf 4 (by omega) (by omega), hf 5 (by omega) (by omega), hf 6 (by omega) (by omega), hf 7 (by omega) (by omega)]
  exact h
theorem Ru.Fr {M' : OS} (h : Ru P NP E Bs F Pt Ap ru M) (hf : Fr M M') : Ru P NP E Bs F Pt Ap ru M' := h.fr fun j h1 h2 => hf.1 j (by omega) (by omega)
theorem fw_I {T B d g : Nat} (h : max d B ≤ T) : (nI T - nI (max d B)) * nI g = nI (fw T B d g) := by
  rw [pk_sub h, pk_mul]
  rfl
theorem fq_c {n w r Bs : Nat} (hx : w * (Bs + r) ≤ 140672000) : f_X2_quotientUp n (nI w * (nI Bs + nI r)) (100 : Int32) = some (nI ((w * (Bs + r) + 100 - 1) / 100)) := by
  rw [nI_add, pk_mul]
  exact c_quotientUp (d := 100) (by omega) (by decide)
theorem fq_m {n w r Bs : Nat} (hx : w * (Bs + r) ≤ 140672000) : f_X9_upwards n (nI w * (nI Bs + nI r)) (100 : Int32) = some (nI ((w * (Bs + r) + 100 - 1) / 100)) := by
  rw [nI_add, pk_mul]
  exact m_upwards (d := 100) (by omega) (by decide)
theorem fa_0 {x : Nat} (h : x < 2 ^ 31) : (if nI x < (200 : Int32) then nI x else (200 : Int32)) = nI (min 200 x) := by
  rw [Nat.min_comm]
  exact minI (b := 200) h (by decide)
theorem fa_c {T B d g r Bs : Nat} (hx : fw T B d g * (Bs + r) ≤ 140672000) : (if nI ((fw T B d g * (Bs + r) + 100 - 1) / 100) < (200 : Int32) then nI ((fw T B d g * (Bs + r) + 100 - 1) / 100) else (200 : Int32)) = nI (fam T B d g r Bs) := by
  unfold fam
  exact fa_0 (by omega)
theorem fa_m {n T B d g r Bs : Nat} (hx : fw T B d g * (Bs + r) ≤ 140672000) : f_X9_lesser n (200 : Int32) (nI ((fw T B d g * (Bs + r) + 100 - 1) / 100)) = some (nI (fam T B d g r Bs)) := by
  unfold fam
  exact m_lesser (a := 200) (by decide) (by omega)
theorem f9_c {a b : Nat} (h : a + b < 2 ^ 31) : (if nI a + nI b < (999 : Int32) then nI a + nI b else (999 : Int32)) = nI (min (a + b) 999) := by
  rw [nI_add]
  exact minI (b := 999) h (by decide)
theorem f9_m {n a b : Nat} (h : a + b < 2 ^ 31) : f_X9_lesser n (999 : Int32) (nI a + nI b) = some (nI (min (a + b) 999)) := by
  rw [nI_add, Nat.min_comm]
  exact m_lesser (a := 999) (by decide) h
theorem c_fineFor0 (h : R0 P NP D K T LC CC FC c m) {l p d g r b B Bs W A NB NR X Q : Nat} (hl : l < LC) (hp : p < 8) (hpo : m (58 + 6 * l) = nI p) (hdo : m (58 + 6 * l + 1) = nI d) (hg : pc m P (nI l) = g) (hr : m (10 + 6 * p) = nI r) (hb : m (10 + 6 * p + 1) = nI b) (hB : c.1 7 = nI B) (emax : (if nI d < nI B then nI B else nI d) = nI X) (ew : (nI T - nI X) * nI g = nI W) (eq : f_X2_quotientUp n (nI W * (nI Bs + nI r)) (100 : Int32) = some (nI Q)) (ea : (if nI Q < (200 : Int32) then nI Q else (200 : Int32)) = nI A) (eb2 : (if nI b + nI A < (999 : Int32) then nI b + nI A else (999 : Int32)) = nI NB) (er2 : (if nI r + nI W < (999 : Int32) then nI r + nI W else (999 : Int32)) = nI NR) : f_X2_fineFor n c (nI l) (nI Bs) = some (finedC c FC p l W X T A NB NR, nI A) := by
  have h80 := (c_get0 h hl).2
  have hT := (h.time).2.1
  have hF := h.mfines
  have h40 : FC % 40 < 40 := Nat.mod_lt _ (by decide)
  obtain ⟨q1, q2, q3, -, -, -, -⟩ := h.1.2.2.2.2.1 l hl
  obtain ⟨u1, u2, -, -, -⟩ := h.1.2.2.2.1 p hp
  have rm := rm40 (f := FC) (by omega)
  have r2 : upd (c.2.1 11) (5 * p + 3) (c.2.1 11 (5 * p + 3) + 1) (5 * p + 1) = nI b := by rw [upd_n (show 5 * p + 1 ≠ 5 * p + 3 by omega), u2, hb]
  unfold f_X2_fineFor
  rw [gL0 h80, ebnd, q1, hpo, gP0 hp, ebnd, u1, hr, gL2 h80, ebnd, q3, hdo, hB, eLet, emax, gL1 h80, ebnd, q2, hg, hT, eLet, ew, eq, ebnd, eLet, ea, hF.2.1, eLet, rm, eLet, nI_1, sI_2]
  rw [sF0 h40, ebnd, eLet, sA_get, sF1 h40, ebnd, eLet, sA_sA, sA_get, sF2 h40, ebnd, eLet, sA_sA, sA_get, sF3 h40, ebnd, eLet, sA_sA, sA_get]
  rw [sA_1, sI_o (show (0 : Nat) ≠ 5 by decide), hT, sF4 h40, ebnd, eLet, sA_sA, sA_get, sF5 h40, ebnd, eLet, sA_sA, sA_get, sF6 h40, ebnd, eLet, sA_sA, sA_get, sF7 h40, ebnd, eLet, sA_sA]
  rw [sA_o (show (11 : Nat) ≠ 14 by decide), sI_2, aP3 hp, ebnd, eLet, sA_get, gP1 hp, ebnd, r2, eb2, sP1 hp, ebnd, eLet, sA_sA, sA_get, er2, sP0 hp, ebnd, eLet, sA_sA]
  unfold finedC fineC row8
  rfl
theorem c_fineFor (h : R0 P NP D K T LC CC FC c m) {l p d g r b B : Nat} (hl : l < LC) (hp : p < 8) (hpo : m (58 + 6 * l) = nI p) (hdo : m (58 + 6 * l + 1) = nI d) (hg : pc m P (nI l) = g) (hr : m (10 + 6 * p) = nI r) (hb : m (10 + 6 * p + 1) = nI b) (hB : c.1 7 = nI B) (h1 : d < T) (h2 : B < T) (hr2 : r ≤ 999) (hb2 : b ≤ 999) (hBs : Bs ≤ 100) : f_X2_fineFor n c (nI l) (nI Bs) = some (finedC c FC p l (fw T B d g) (max d B) T (fam T B d g r Bs) (min (b + fam T B d g r Bs) 999) (min (r + fw T B d g) 999), nI (fam T B d g r Bs)) := by
  have hT := (h.time).2.2
  have hgl : g ≤ 64 := by
    have := pc_le m P (nI l)
    have := h.P64
    omega
  have hw := fw_le (B := B) (d := d) hT hgl
  have hx := fx_le hw hr2 hBs
  have ha : fam T B d g r Bs ≤ 200 := Nat.min_le_left _ _
  exact c_fineFor0 h hl hp hpo hdo hg hr hb hB (maxI (by omega) (by omega)) (fw_I (by omega)) (fq_c hx) (fa_c hx) (f9_c (by omega)) (f9_c (by omega))
theorem m_finesFor0 (hR : R0 P NP D K T LC CC FC c (M.2.1 9)) {l p d g r b B W A NB NR X Q Bs : Nat} (hl : l < LC) (hp : p < 8) (hpo : M.2.1 9 (58 + 6 * l) = nI p) (hdo : M.2.1 9 (58 + 6 * l + 1) = nI d) (epg : f_X9_pagesOf n M (nI l) = some (nI g)) (hr : M.2.1 9 (10 + 6 * p) = nI r) (hb : M.2.1 9 (10 + 6 * p + 1) = nI b) (hB : M.2.1 9 3 = nI B) (hBs : M.1 4 = nI Bs) (emax : f_X9_greater n (nI d) (nI B) = some (nI X)) (ew : (nI T - nI X) * nI g = nI W) (eq : f_X9_upwards n (nI W * (nI Bs + nI r)) (100 : Int32) = some (nI Q)) (ea : f_X9_lesser n (200 : Int32) (nI Q) = some (nI A)) (eb2 : f_X9_lesser n (999 : Int32) (nI b + nI A) = some (nI NB)) (er2 : f_X9_lesser n (999 : Int32) (nI r + nI W) = some (nI NR)) : f_X9_finesFor n M (nI l) = if nI l = M.1 17 then j_X9_finesFor_251 n (sI (sA M 9 (finedM (M.2.1 9) FC p l W X T A NB NR)) 18 (nI A)) (nI p) (nI A) else j_X9_finesFor_251 n (sA M 9 (finedM (M.2.1 9) FC p l W X T A NB NR)) (nI p) (nI A) := by
  have h80 : l < 80 := (c_get0 hR hl).2
  have hT := hR.time.1
  have hF := hR.mfines
  have h40 : FC % 40 < 40 := Nat.mod_lt _ (by decide)
  have hfa := m_fa (n := n) (f := FC) (by omega)
  generalize hu : M.2.1 9 = u at *
  have r0 : upd u (10 + 6 * p + 1) (nI NB) (10 + 6 * p) = nI r := by rw [upd_n (by omega), hr]
  have r4 : upd (upd u (10 + 6 * p + 1) (nI NB)) (10 + 6 * p) (nI NR) (10 + 6 * p + 4) = u (10 + 6 * p + 4) := by rw [upd_n (by omega), upd_n (by omega)]
  have rf : upd (upd (upd u (10 + 6 * p + 1) (nI NB)) (10 + 6 * p) (nI NR)) (10 + 6 * p + 4) (u (10 + 6 * p + 4) + 1) 4 = nI FC := by rw [upd_n (by omega), upd_n (by omega), upd_n (by omega), hF.1]
  have rt : upd (upd (upd u (10 + 6 * p + 1) (nI NB)) (10 + 6 * p) (nI NR)) (10 + 6 * p + 4) (u (10 + 6 * p + 4) + 1) 0 = nI T := by rw [upd_n (by omega), upd_n (by omega), upd_n (by omega), hT]
  unfold f_X9_finesFor
  rw [mL0 h80, ebnd, mL1 h80, ebnd, hu, hpo, hdo, gz3, hB, emax, ebnd, gz0, hT, epg, ebnd, eLet, ew, mP0 hp, ebnd, hu, hr, hBs, eq, ebnd, ea, ebnd, mP1 hp, ebnd, hu, hb, eb2, ebnd, mS1 hp, ebnd, hu, mP0 hp, ebnd, sA_get, r0, er2, ebnd, mS0 hp, ebnd, sA_sA, sA_get, mP4 hp, ebnd, sA_get, r4, mS4 hp, ebnd, sA_sA, sA_get]
  rw [gz4, sA_get, rf, hfa, ebnd]
  unfold finedM fineM row8
  generalize upd (upd (upd u (10 + 6 * p + 1) (nI NB)) (10 + 6 * p) (nI NR)) (10 + 6 * p + 4) (u (10 + 6 * p + 4) + 1) = u0 at *
  clear r0 r4 hpo hdo hr hb hB hR hT
  generalize FC % 40 = f at *
  rw [Int32.add_zero, wz (by omega), sA_get, sA_sA, nI_1, wz (by omega), sA_get, sA_sA, nI_p2, wz (by omega), sA_get, sA_sA, nI_p3, wz (by omega), sA_get, sA_sA]
  rw [gz0, upd_n (by omega), upd_n (by omega), upd_n (by omega), upd_n (by omega), rt]
  rw [nI_p4, wz (by omega), sA_get, sA_sA, nI_p5, wz (by omega), sA_get, sA_sA, nI_p6, wz (by omega), sA_get, sA_sA, nI_p7, wz (by omega), sA_get, sA_sA]
  rw [gz4, upd_n (by omega), upd_n (by omega), upd_n (by omega), upd_n (by omega), upd_n (by omega), upd_n (by omega), upd_n (by omega), upd_n (by omega), rf, nI_1, hz4, sA_sA]
  rfl
theorem m_finesFor (hR : R0 P NP D K T LC CC FC c (M.2.1 9)) (hU : Ru P NP E Bs F Pt Ap ru M) (hn : 100 < n) {l p d g r b B : Nat} (hl : l < LC) (hp : p < 8) (hpo : M.2.1 9 (58 + 6 * l) = nI p) (hdo : M.2.1 9 (58 + 6 * l + 1) = nI d) (hg : pc (M.2.1 9) P (nI l) = g) (hr : M.2.1 9 (10 + 6 * p) = nI r) (hb : M.2.1 9 (10 + 6 * p + 1) = nI b) (hB : M.2.1 9 3 = nI B) (h1 : d < T) (h2 : B < T) (hr2 : r ≤ 999) (hb2 : b ≤ 999) : ∃ M', f_X9_finesFor n M (nI l) = some M' ∧ M'.2.1 9 = finedM (M.2.1 9) FC p l (fw T B d g) (max d B) T (fam T B d g r Bs) (min (b + fam T B d g r Bs) 999) (min (r + fw T B d g) 999) ∧ (M'.1 18 = if nI l = M.1 17 then nI (fam T B d g r Bs) else M.1 18) ∧ (M'.1 20 = if nI p = M.1 19 then M.1 20 + nI (fam T B d g r Bs) else M.1 20) ∧ Fr M M' ∧ M'.2.1 21 = M.2.1 21 := by
  have hT := hR.time.2.2
  have h64 := hR.P64
  have hgl : g ≤ 64 := by
    have := pc_le (M.2.1 9) P (nI l)
    omega
  have hw := fw_le (B := B) (d := d) hT hgl
  have hx := fx_le hw hr2 hU.2.2.2.2.2.2.2.2.1
  have ha : fam T B d g r Bs ≤ 200 := Nat.min_le_left _ _
  have epg : f_X9_pagesOf n M (nI l) = some (nI g) := by rw [m_pagesOf hU.2.1.1 h64 hn, hg]
  rw [m_finesFor0 hR hl hp hpo hdo epg hr hb hB hU.2.1.2.2.2.1 (m_greater (by omega) (by omega)) (fw_I (by omega)) (fq_m hx) (fa_m hx) (f9_m (by omega)) (f9_m (by omega))]
  generalize finedM (M.2.1 9) FC p l (fw T B d g) (max d B) T (fam T B d g r Bs) (min (b + fam T B d g r Bs) 999) (min (r + fw T B d g) 999) = m'
  generalize fam T B d g r Bs = A
  have j0 : ∀ (X : OS), j_X9_finesFor_251 n X (nI p) (nI A) = if nI p = X.1 19 then some (sI X 20 (X.1 20 + nI A)) else some X := fun X => rfl
  rw [j0, j0]
  by_cases w1 : nI l = M.1 17
  · rw [if_pos w1, if_pos w1]
    by_cases w2 : nI p = M.1 19
    · rw [if_pos (show nI p = (sI (sA M 9 m') 18 (nI A)).1 19 from w2), if_pos w2]
      exact ⟨_, rfl, rfl, rfl, rfl, ⟨fun j a1 a2 => by rw [sI_o a2, sI_o a1]; rfl, fun j a1 a2 => sA_o a1, rfl⟩, rfl⟩
    · rw [if_neg (show ¬ nI p = (sI (sA M 9 m') 18 (nI A)).1 19 from w2), if_neg w2]
      exact ⟨_, rfl, rfl, rfl, rfl, ⟨fun j a1 a2 => by rw [sI_o a1]; rfl, fun j a1 a2 => sA_o a1, rfl⟩, rfl⟩
  · rw [if_neg w1, if_neg w1]
    by_cases w2 : nI p = M.1 19
    · rw [if_pos (show nI p = (sA M 9 m').1 19 from w2), if_pos w2]
      exact ⟨_, rfl, rfl, rfl, rfl, ⟨fun j a1 a2 => by rw [sI_o a2]; rfl, fun j a1 a2 => sA_o a1, rfl⟩, rfl⟩
    · rw [if_neg (show ¬ nI p = (sA M 9 m').1 19 from w2), if_neg w2]
      exact ⟨_, rfl, rfl, rfl, rfl, ⟨fun j a1 a2 => rfl, fun j a1 a2 => sA_o a1, rfl⟩, rfl⟩
theorem R0.latest (h : R0 P NP D K T LC CC FC c m) (l : Nat) (x : Int32) : R0 P NP D K T LC CC FC (sA c 12 (upd (c.2.1 12) (8 * l + 5) x)) m := by
  obtain ⟨⟨hsc, how, hfr, hpr, hln, hcl, hfn, hst⟩, hI⟩ := h
  refine ⟨⟨hsc, how, hfr, hpr, ?_, hcl, hfn, hst⟩, hI⟩
  intro a ha
  have ou : ∀ j, j ≠ 5 → j < 8 → upd (c.2.1 12) (8 * l + 5) x (8 * a + j) = c.2.1 12 (8 * a + j) := fun j h1 h2 => upd_n (by omega)
  obtain ⟨g1, g2, g3, g4, g5, g6, g7⟩ := hln a ha
  exact ⟨(ou 0 (by omega) (by omega)).trans g1, (ou 1 (by omega) (by omega)).trans g2, (ou 2 (by omega) (by omega)).trans g3, (ou 3 (by omega) (by omega)).trans g4, (ou 4 (by omega) (by omega)).trans g5, (ou 6 (by omega) (by omega)).trans g6, (ou 7 (by omega) (by omega)).trans g7⟩
theorem R0.fined (h : R0 P NP D K T LC CC FC c m) {l p w b a nb nr : Nat} (hF : FC < 160000) (hp : p < NP) (hp8 : p < 8) (hw : w ≤ 128000) (hb : b < T) (ha : a ≤ 200) (hnb : nb ≤ 999) (hnr : nr ≤ 999) : R0 P NP D K T LC CC (FC + 1) (finedC c FC p l w b T a nb nr) (finedM m FC p l w b T a nb nr) := by
  have hx := (h.1.2.2.2.1 p hp8).2.2.2.1
  have s1 := h.setP hp8 (jc := 1) (jm := 1) (by omega) (nI nb) (fun _ => ⟨nb, hnb, rfl⟩)
  have s2 := s1.setP hp8 (jc := 0) (jm := 0) (by omega) (nI nr) (fun _ => ⟨nr, hnr, rfl⟩)
  have s3 := s2.setP hp8 (jc := 3) (jm := 4) (by omega) (m (10 + 6 * p + 4) + 1) (fun z => absurd z (by omega))
  have s4 := s3.fine hF hp hw hb (Nat.le_refl T) ha (nI l)
  refine s4.ext (fun j _ _ _ => rfl) (fun j j1 j2 => ?_) rfl (fun j _ _ _ => rfl)
  by_cases e : j = 11
  · subst e
    show upd (upd (upd (c.2.1 11) (5 * p + 3) (c.2.1 11 (5 * p + 3) + 1)) (5 * p + 1) (nI nb)) (5 * p) (nI nr) = upd (upd (upd (c.2.1 11) (5 * p + 1) (nI nb)) (5 * p) (nI nr)) (5 * p + 3) (m (10 + 6 * p + 4) + 1)
    rw [hx, fa_upd_swap _ (show 5 * p + 3 ≠ 5 * p + 1 by omega), fa_upd_swap _ (show 5 * p + 3 ≠ 5 * p by omega)]
  · by_cases e2 : j = 14
    · subst e2
      rfl
    · simp only [finedC, fineC, sA_at, sI_2, if_neg e, if_neg e2]
theorem finedM_o {f p l w b e a nb nr i : Nat} (h1 : i ≠ 10 + 6 * p) (h2 : i ≠ 10 + 6 * p + 1) (h3 : i ≠ 10 + 6 * p + 4) (h4 : i ≠ 4) (h5 : i < 1022 ∨ 1342 ≤ i) : finedM m f p l w b e a nb nr i = m i := by
  have h40 : f % 40 < 40 := Nat.mod_lt _ (by decide)
  unfold finedM fineM
  rw [upd_n h4, row8_o (by omega), upd_n h3, upd_n h1, upd_n h2]
/-- what holds as the loans are gone through for fines: i of them are done -/
def HF (P NP D K T LC CC FC : Nat) (c0 M0 : OS) (i : Nat) (c M : OS) : Prop := ∃ FC', R0 P NP D K T LC CC FC' c (M.2.1 9) ∧ FC' ≤ FC + i ∧ Fr M0 M ∧ M.2.1 21 = M0.2.1 21 ∧ c.1 6 = c0.1 6 ∧ c.1 7 = c0.1 7 ∧ c.2.1 15 = c0.2.1 15 ∧ (∀ j, (j < 10 ∧ j ≠ 4) ∨ (58 ≤ j ∧ j < 1022) → M.2.1 9 j = M0.2.1 9 j) ∧ (M0.1 18 = 0 → ∀ l, l < LC → M0.1 17 = nI l → M.1 18 = if l < i then c.2.1 12 (8 * l + 5) else 0) ∧ M.1 20 = M0.1 20 + su (fun l => if M0.2.1 9 (58 + 6 * l) = M0.1 19 then c.2.1 12 (8 * l + 5) else 0) i ∧ Rch P NP CC T LC FC (M0.2.1 9) T LC FC' (M.2.1 9)
theorem hearFines {B : Nat} (hR : R0 P NP D K T LC CC FC c (M.2.1 9)) (hU : Ru P NP E Bs F Pt Ap ru M) (hn : 100 < n) (hD : D ≤ 100000) (hF : FC + 80 ≤ 160000) (hB : M.2.1 9 3 = nI B) (hcB : c.1 7 = nI B) (hBT : B < T) : ∃ c' M', f_X2_hearFines n c ru = some c' ∧ f_X9_finesAll n M = some M' ∧ HF P NP D K T LC CC FC c M LC c' M' := by
  have h80 := hR.L80
  have h64 := hR.P64
  have hNP : NP ≤ 8 := hU.2.2.2.2.1
  have hBs : Bs ≤ 100 := hU.2.2.2.2.2.2.2.2.1
  refine loop_rel (l := l_X2_hearFines_2 n ru) (l2 := l_X9_finesAll_2 n) (HF P NP D K T LC CC FC c M) (Q := HF P NP D K T LC CC FC c M LC) (K := LC) ?_ ?_ 0 n n c M (by omega) (by omega) (by omega) ?_
  · intro N N2 s t hI
    obtain ⟨FC', g1, _⟩ := id hI
    refine ⟨s, t, ?_, ?_, hI⟩
    · show s_X2_hearFines_2 n ru _ s (nI LC) = _
      unfold s_X2_hearFines_2
      rw [g1.loans, if_pos (Int32.le_refl _)]
    · show s_X9_finesAll_2 n _ t (nI LC) = _
      unfold s_X9_finesAll_2
      rw [gz6, g1.mloans, if_pos (Int32.le_refl _)]
  · intro N N2 s t i hi hI
    obtain ⟨FC', g1, g2, g3, g4, g5, g6, g7, g8, g9, g10, g11⟩ := hI
    have hU' := hU.Fr g3
    have i80 : i < 80 := by omega
    have hT := g1.time
    have e8 : ∀ l, l < LC → t.2.1 9 (58 + 6 * l) = M.2.1 9 (58 + 6 * l) := fun l hl => g8 _ (by omega)
    have hs1 : s_X2_hearFines_2 n ru (l_X2_hearFines_2 n ru N) s (nI i) = l_X2_hearFines_2 n ru (N + 1) s (nI i) := rfl
    have hs2 : s_X9_finesAll_2 n (l_X9_finesAll_2 n N2) t (nI i) = l_X9_finesAll_2 n (N2 + 1) t (nI i) := rfl
    by_cases hb : bk (t.2.1 9) P i = true
    · obtain ⟨⟨p, hp, hpo⟩, ⟨d, hd, hdo⟩⟩ := g1.2.2.2.2.2.1 i hi
      have hp8 : p < 8 := by omega
      obtain ⟨⟨r, hr2, hr⟩, ⟨b, hb2, hb1⟩⟩ := g1.2.2.2.1 p hp8
      have hdT : d < T := by
        unfold bk at hb
        have := of_decide_eq_true (Bool.and_eq_true_iff.mp hb).1
        rw [hdo, hT.1, nI_ltI (by omega) (by omega)] at this
        exact this
      have hc7 : s.1 7 = nI B := g6.trans hcB
      have hm3 : t.2.1 9 3 = nI B := (g8 3 (by omega)).trans hB
      obtain ⟨M', k1, k2, k3, k4, k5, k6⟩ := m_finesFor (n := n) g1 hU' hn hi hp8 hpo hdo rfl hr hb1 hm3 hdT hBT hr2 hb2
      have kc := c_fineFor (n := n) g1 hi hp8 hpo hdo rfl hr hb1 hc7 hdT hBT hr2 hb2 hBs
      have hgl : pc (t.2.1 9) P (nI i) ≤ 64 := by
        have := pc_le (t.2.1 9) P (nI i)
        omega
      have hw := fw_le (B := B) (d := d) hT.2.2 hgl
      have ha : fam T B d (pc (t.2.1 9) P (nI i)) r Bs ≤ 200 := Nat.min_le_left _ _
      have hRn := (g1.fined (l := i) (b := max d B) (by omega) hp hp8 hw (by omega) ha (Nat.min_le_right (b + fam T B d (pc (t.2.1 9) P (nI i)) r Bs) 999) (Nat.min_le_right (r + fw T B d (pc (t.2.1 9) P (nI i))) 999)).latest i (nI (fam T B d (pc (t.2.1 9) P (nI i)) r Bs))
      refine ⟨sA (finedC s FC' p i (fw T B d (pc (t.2.1 9) P (nI i))) (max d B) T (fam T B d (pc (t.2.1 9) P (nI i)) r Bs) (min (b + fam T B d (pc (t.2.1 9) P (nI i)) r Bs) 999) (min (r + fw T B d (pc (t.2.1 9) P (nI i))) 999)) 12 (upd ((finedC s FC' p i (fw T B d (pc (t.2.1 9) P (nI i))) (max d B) T (fam T B d (pc (t.2.1 9) P (nI i)) r Bs) (min (b + fam T B d (pc (t.2.1 9) P (nI i)) r Bs) 999) (min (r + fw T B d (pc (t.2.1 9) P (nI i))) 999)).2.1 12) (8 * i + 5) (nI (fam T B d (pc (t.2.1 9) P (nI i)) r Bs))), M', ?_, ?_, ?_⟩
      rotate_left
      · rw [← hs1]
        unfold s_X2_hearFines_2
        rw [g1.loans, if_neg (nI_ge hi (by omega)), c_isBroken g1 h64 hi, ebnd, ifz, if_pos hb, hU.1.2.2.2.1, kc, ebnd2, sL5 i80, ebnd, eLet, eLet, nI_1]
      · rw [← hs2]
        unfold s_X9_finesAll_2
        rw [gz6, g1.mloans, if_neg (nI_ge hi (by omega)), m_isBroken hU'.2.1.1 h64 hn i80, ebnd, ifz, if_pos hb, k1, ebnd, eLet, nI_1]
      · refine ⟨FC' + 1, ?_, by omega, g3.tr k5, k6.trans g4, g5, g6, g7, ?_, ?_, ?_, by rw [k2]; exact g11.tr (Rch.fine hi hp hp8)⟩
        · rw [k2]
          exact hRn
        · intro j hj
          rw [k2, finedM_o (by omega) (by omega) (by omega) (by omega) (by omega)]
          exact g8 j hj
        · intro h18 l hl h17
          show M'.1 18 = if l < i + 1 then upd (s.2.1 12) (8 * i + 5) (nI (fam T B d (pc (t.2.1 9) P (nI i)) r Bs)) (8 * l + 5) else 0
          rw [k3, g3.1 17 (by omega) (by omega), h17]
          by_cases e : i = l
          · subst e
            rw [if_pos rfl, if_pos (by omega), upd_s]
          · rw [if_neg (fun z => e (nI_inj (by omega) (by omega) z)), g9 h18 l hl h17, upd_n (by omega)]
            by_cases e2 : l < i
            · rw [if_pos e2, if_pos (by omega)]
            · rw [if_neg e2, if_neg (by omega)]
        · show M'.1 20 = M.1 20 + su (fun l => if M.2.1 9 (58 + 6 * l) = M.1 19 then upd (s.2.1 12) (8 * i + 5) (nI (fam T B d (pc (t.2.1 9) P (nI i)) r Bs)) (8 * l + 5) else 0) (i + 1)
          have es : su (fun l => if M.2.1 9 (58 + 6 * l) = M.1 19 then upd (s.2.1 12) (8 * i + 5) (nI (fam T B d (pc (t.2.1 9) P (nI i)) r Bs)) (8 * l + 5) else 0) i = su (fun l => if M.2.1 9 (58 + 6 * l) = M.1 19 then s.2.1 12 (8 * l + 5) else 0) i := su_cong fun l hl => by rw [upd_n (by omega)]
          rw [su, es, upd_s, k4, g3.1 19 (by omega) (by omega), g10, ← e8 i hi, hpo]
          by_cases e : nI p = M.1 19
          · rw [if_pos e, if_pos e, Int32.add_assoc]
          · rw [if_neg e, if_neg e, Int32.add_zero]
    · have hbf : bk (t.2.1 9) P i = false := ts_fls hb
      refine ⟨sA s 12 (upd (s.2.1 12) (8 * i + 5) 0), t, ?_, ?_, ?_⟩
      rotate_left
      · rw [← hs1]
        unfold s_X2_hearFines_2
        rw [g1.loans, if_neg (nI_ge hi (by omega)), c_isBroken g1 h64 hi, ebnd, ifz, if_neg hb, sL5 i80, ebnd, eLet, eLet, nI_1]
      · rw [← hs2]
        unfold s_X9_finesAll_2
        rw [gz6, g1.mloans, if_neg (nI_ge hi (by omega)), m_isBroken hU'.2.1.1 h64 hn i80, ebnd, ifz, if_neg hb, eLet, nI_1]
      · refine ⟨FC', g1.latest i 0, by omega, g3, g4, g5, g6, g7, g8, ?_, ?_, g11⟩
        · intro h18 l hl h17
          show t.1 18 = if l < i + 1 then upd (s.2.1 12) (8 * i + 5) 0 (8 * l + 5) else 0
          rw [g9 h18 l hl h17]
          by_cases e : l = i
          · subst e
            rw [if_neg (by omega), if_pos (by omega), upd_s]
          · rw [upd_n (by omega)]
            by_cases e2 : l < i
            · rw [if_pos e2, if_pos (by omega)]
            · rw [if_neg e2, if_neg (by omega)]
        · show t.1 20 = M.1 20 + su (fun l => if M.2.1 9 (58 + 6 * l) = M.1 19 then upd (s.2.1 12) (8 * i + 5) 0 (8 * l + 5) else 0) (i + 1)
          have es : su (fun l => if M.2.1 9 (58 + 6 * l) = M.1 19 then upd (s.2.1 12) (8 * i + 5) 0 (8 * l + 5) else 0) i = su (fun l => if M.2.1 9 (58 + 6 * l) = M.1 19 then s.2.1 12 (8 * l + 5) else 0) i := su_cong fun l hl => by rw [upd_n (by omega)]
          rw [su, es, upd_s, ite_self, Int32.add_zero, g10]
  · exact ⟨FC, hR, by omega, Fr.rf M, rfl, rfl, rfl, rfl, fun _ _ => rfl, fun h18 l hl _ => by rw [if_neg (by omega), h18], (Int32.add_zero _).symm, Rch.rf⟩
end FINES
