/-! the words of the enum, and the constant texts: what the start says of them (ESF), their rows, the JDK's members that read them -/
def wNameL : List String := ["OTHER", "PAGES", "PROCESS", "EVERY", "BASE", "FADE", "PATIENCE", "APPEAL", "ORDER", "BY_FIRST", "BY_SMALL", "BY_CLEAN", "LOAN", "ASK"]
def wBitL : List Int32 := [0, 0, 0, 1, 2, 4, 8, 16, 32, 0, 0, 0, 0, 0]
def wLowL : List Int32 := [0, 4, 0, 1, 1, 1, 1, 0, 0, 0, 0, 0, 0, 0]
def wHighL : List Int32 := [0, 64, 0, 50, 100, 99, 20, 99, 0, 0, 0, 0, 0, 0]
def wUsualL : List Int32 := [0, 4, 0, 5, 10, 20, 3, 10, 0, 0, 0, 0, 0, 0]
def wMapL : List Int32 := [0, 0, 6, 1, 2, 3, 4, 5, 9, 10, 11, 12, 7, 8]
def wBit (v : Int32) : Int32 := wBitL.getD v.toNatClampNeg 0
def wLow (v : Int32) : Int32 := wLowL.getD v.toNatClampNeg 0
def wHigh (v : Int32) : Int32 := wHighL.getD v.toNatClampNeg 0
def wUsual (v : Int32) : Int32 := wUsualL.getD v.toNatClampNeg 0
def wMap (v : Int32) : Int32 := wMapL.getD v.toNatClampNeg 0
def sTextL : List String := ["", "pages", "process", "every", "base", "fade", "patience", "appeal", "order", "first", "small", "clean", "loan", "ask", "pages process every base fade patience appeal order first small clean loan ask ", "pages ", "process ", "every ", ";base ", ";fade ", ";patience ", ";appeal ", "order small;", "order clean;", "order first;"]
def lIdxL : List Nat := [43, 55, 60, 66, 68, 70, 72, 74, 76, 78]
def sBytL : List (List Int32) := [[], [112, 97, 103, 101, 115], [112, 114, 111, 99, 101, 115, 115], [101, 118, 101, 114, 121], [98, 97, 115, 101], [102, 97, 100, 101], [112, 97, 116, 105, 101, 110, 99, 101], [97, 112, 112, 101, 97, 108], [111, 114, 100, 101, 114], [102, 105, 114, 115, 116], [115, 109, 97, 108, 108], [99, 108, 101, 97, 110], [108, 111, 97, 110], [97, 115, 107], [112, 97, 103, 101, 115, 32, 112, 114, 111, 99, 101, 115, 115, 32, 101, 118, 101, 114, 121, 32, 98, 97, 115, 101, 32, 102, 97, 100, 101, 32, 112, 97, 116, 105, 101, 110, 99, 101, 32, 97, 112, 112, 101, 97, 108, 32, 111, 114, 100, 101, 114, 32, 102, 105, 114, 115, 116, 32, 115, 109, 97, 108, 108, 32, 99, 108, 101, 97, 110, 32, 108, 111, 97, 110, 32, 97, 115, 107, 32], [112, 97, 103, 101, 115, 32], [112, 114, 111, 99, 101, 115, 115, 32], [101, 118, 101, 114, 121, 32], [59, 98, 97, 115, 101, 32], [59, 102, 97, 100, 101, 32], [59, 112, 97, 116, 105, 101, 110, 99, 101, 32], [59, 97, 112, 112, 101, 97, 108, 32], [111, 114, 100, 101, 114, 32, 115, 109, 97, 108, 108, 59], [111, 114, 100, 101, 114, 32, 99, 108, 101, 97, 110, 59], [111, 114, 100, 101, 114, 32, 102, 105, 114, 115, 116, 59]]
def sLenL : List Nat := [0, 5, 7, 5, 4, 4, 8, 6, 5, 5, 5, 5, 4, 3, 79, 6, 8, 6, 6, 6, 10, 8, 12, 12, 12]
def sLen (v : Int32) : Int32 := nI (sLenL.getD v.toNatClampNeg 0)
def sChr (v i : Int32) : Int32 := (sBytL.getD v.toNatClampNeg []).getD i.toNatClampNeg 0 &&& 255
/-- the address of text i -/
def strAd (k : KT) (v : Int32) : Nat := k.2.1.2 (20 + v.toNatClampNeg)
def ESF (ad : Nat → Nat) (A : Nat → Prop) (U : State) (H : Heap) : Prop :=
  (∀ i : Nat, i < 14 → va_Z RX7 (wNameL.getD i "") "LMemoryCourt$Word;" (.ref (ad i)) A U H ∧ va_O RX7 (ad i) A U H) ∧
  va_Ef 14 RX7 "bit" "I" (fun i => .int (wBitL.getD i 0)) ad A U H ∧ va_Ef 14 RX7 "low" "I" (fun i => .int (wLowL.getD i 0)) ad A U H ∧ va_Ef 14 RX7 "high" "I" (fun i => .int (wHighL.getD i 0)) ad A U H ∧ va_Ef 14 RX7 "usual" "I" (fun i => .int (wUsualL.getD i 0)) ad A U H ∧
  va_Ef 14 "java/lang/Enum" "ordinal" "I" (fun i => .int (nI i)) ad A U H ∧ va_Ef 14 RX7 "text" "Ljava/lang/String;" (fun i => .ref (ad (20 + i))) ad A U H ∧
  (∃ t : Nat, va_Z RX7 "ALL" "[LMemoryCourt$Word;" (.ref t) A U H ∧ va_T (.object RX7) t 14 (fun i => .ref (ad i)) A U H) ∧
  (∃ t : Nat, va_Z RX0 "$SwitchMap$MemoryCourt$Word" "[I" (.ref t) A U H ∧ va_T .int t 14 (fun i => .int (wMapL.getD i 0)) A U H) ∧
  (∀ i j : Nat, i < 14 → j < 14 → ad i = ad j → i = j) ∧ (∀ i : Nat, i < 25 → i ≠ 14 → va_O "java/lang/String" (ad (20 + i)) A U H ∧ va_OF "java/lang/String" "coder" "B" (.int 0) (ad (20 + i)) A U H ∧ va_OF "java/lang/String" "value" "[B" (.ref (ad (60 + i))) (ad (20 + i)) A U H ∧ va_T .byte (ad (60 + i)) (sLenL.getD i 0) (fun j => .int ((sBytL.getD i []).getD j 0)) A U H) ∧
  (∀ i : Nat, i < 10 → vk_R RL (lIdxL.getD i 0) (sTextL.getD (15 + i) "") (ad (35 + i)) U) ∧ va_Z "java/lang/String" "COMPACT_STRINGS" "Z" (.int 1) A U H ∧ va_Zq "jdk/internal/util/Preconditions" "SIOOBE_FORMATTER" "Ljava/util/function/BiFunction;" A U H
def sIn (v : Int32) : Prop := v.toNatClampNeg < 25 ∧ v.toNatClampNeg ≠ 14
def sbPriv : List MethodName := [yJ5_ensureCapacityInternal_d00df, yJ5_newCapacity_0f7a4, yJ5_putStringAt_47b60, yJ5_inflateIfNeededFor_a7421]
def EH (k : KT) : Prop := (∀ (A : Nat → Prop) (U : State) (H : Heap), k.2.2 A U H → ESF k.2.1.2 A U H) ∧ ∀ (A : Nat → Prop) (U : State) (H : Heap), k.2.2 A U H → ∀ y ∈ sbPriv, ∀ a : Array Value, (Cond.selects RJ4 y y).before a U = true
theorem in_lt {e : Int32} {n : Nat} (h : vp_in e n) : e.toNatClampNeg < n := Nat.not_le.mp fun q => h (Or.inr q)
theorem in_nI {e : Int32} {n : Nat} (h : vp_in e n) (hn : n < 2 ^ 31) : nI e.toNatClampNeg = e := by
  obtain ⟨j, hj, rfl⟩ := vp_in_of h hn
  rw [nI_clamp (by omega)]
theorem in_inj {a b : Int32} {n : Nat} (ha : vp_in a n) (hb : vp_in b n) (hn : n < 2 ^ 31) (h : a.toNatClampNeg = b.toNatClampNeg) : a = b := by rw [← in_nI ha hn, ← in_nI hb hn, h]
section KEN
variable {p : Program} {l : Launch} {e : Env} {R : Room} {s : State} {m : MethodId} {args : Array Value} {below : List Frame} {meth : Method} {c : Code} {H : Heap} {locs : List Loc} {cells slots : Nat} {Q : State → Prop}
variable {cc : ByteArray} {pc nL : Nat} {ls : Array Slot} {rest : List Value} {k : KT} {A : Nat → Prop} {ws ws2 : va_W} {H0 : Heap} {own : String} {a : Nat}
theorem EH.at (hE : EH k) (E : E0 p s m c cc nL own k A) : ESF k.2.1.2 A s s.heap := hE.1 A s s.heap E.sf
/-- a constant of the enum -/
theorem k_wconst (hE : EH k) (E : E0 p s m c cc nL own k A) (hW : WD k A s.heap ws H locs) (v : Int32) {n : String} {idx : Nat} (hv : v.toNatClampNeg < 14) (hn : wNameL.getD v.toNatClampNeg "" = n) (t : Cond.fieldLink own idx RX7 n "LMemoryCourt$Word;" ∈ lw_tbl) (hdg : decode cc pc = .ok (.getstatic idx, 3))
    (q : W p l e R s m args below meth c H locs cells slots Q (F0 m (pc + 3) ls (.ref (wordAd k v) :: rest))) : W p l e R s m args below meth c H locs cells slots Q (F0 m pc ls rest) := by
  subst hn
  exact va_gets E.hx E.hb ((hE.at E).1 _ hv).1 hW.2.2 E.ho (E.w t rfl) (fun _ h => h) hdg q
theorem k_wall (hE : EH k) (E : E0 p s m c cc nL own k A) (hW : WD k A s.heap ws H locs) {idx : Nat} (t : Cond.fieldLink own idx RX7 "ALL" "[LMemoryCourt$Word;" ∈ lw_tbl) (hdg : decode cc pc = .ok (.getstatic idx, 3))
    (q : ∀ a : Nat, va_T (.object RX7) a 14 (fun i => .ref (k.2.1.2 i)) A s s.heap → W p l e R s m args below meth c H locs cells slots Q (F0 m (pc + 3) ls (.ref a :: rest))) : W p l e R s m args below meth c H locs cells slots Q (F0 m pc ls rest) := by
  obtain ⟨a, h1, h2⟩ := (hE.at E).2.2.2.2.2.2.2.1
  exact va_gets E.hx E.hb h1 hW.2.2 E.ho (E.w t rfl) (fun _ h => h) hdg (q a h2)
theorem k_walen (E : E0 p s m c cc nL own k A) (hW : WD k A s.heap ws H locs) {a : Nat} (h : va_T (.object RX7) a 14 (fun i => .ref (k.2.1.2 i)) A s s.heap) (hdg : decode cc pc = .ok (.arraylength, 1))
    (q : W p l e R s m args below meth c H locs cells slots Q (F0 m (pc + 1) ls (.int (14 : Int32) :: rest))) : W p l e R s m args below meth c H locs cells slots Q (F0 m pc ls (.ref a :: rest)) := va_tlen E.hx E.hb h hW.2.2 (by decide) hdg q
theorem k_wald (E : E0 p s m c cc nL own k A) (hW : WD k A s.heap ws H locs) {a : Nat} (h : va_T (.object RX7) a 14 (fun i => .ref (k.2.1.2 i)) A s s.heap) {v : Int32} (hin : vp_in v 14) (hdg : decode cc pc = .ok (.aaload, 1))
    (q : W p l e R s m args below meth c H locs cells slots Q (F0 m (pc + 1) ls (.ref (wordAd k v) :: rest))) : W p l e R s m args below meth c H locs cells slots Q (F0 m pc ls (.int v :: .ref a :: rest)) := vb_tq E.hx E.hb h hW.2.2 hin rfl hdg q
theorem k_smap (hE : EH k) (E : E0 p s m c cc nL own k A) (hW : WD k A s.heap ws H locs) {idx : Nat} (t : Cond.fieldLink own idx RX0 "$SwitchMap$MemoryCourt$Word" "[I" ∈ lw_tbl) (hdg : decode cc pc = .ok (.getstatic idx, 3))
    (q : ∀ a : Nat, va_T .int a 14 (fun i => .int (wMapL.getD i 0)) A s s.heap → W p l e R s m args below meth c H locs cells slots Q (F0 m (pc + 3) ls (.ref a :: rest))) : W p l e R s m args below meth c H locs cells slots Q (F0 m pc ls rest) := by
  obtain ⟨a, h1, h2⟩ := (hE.at E).2.2.2.2.2.2.2.2.1
  exact va_gets E.hx E.hb h1 hW.2.2 E.ho (E.w t rfl) (fun _ h => h) hdg (q a h2)
theorem k_smald (E : E0 p s m c cc nL own k A) (hW : WD k A s.heap ws H locs) {a : Nat} (h : va_T .int a 14 (fun i => .int (wMapL.getD i 0)) A s s.heap) {v : Int32} (hin : vp_in v 14) (hdg : decode cc pc = .ok (.iaload, 1))
    (q : W p l e R s m args below meth c H locs cells slots Q (F0 m (pc + 1) ls (.int (wMap v) :: rest))) : W p l e R s m args below meth c H locs cells slots Q (F0 m pc ls (.int v :: .ref a :: rest)) := va_ti E.hx E.hb h hW.2.2 hin rfl hdg q
theorem k_wgetN (E : E0 p s m c cc nL own k A) (hW : WD k A s.heap ws H locs) {n host : String} {idx : Nat} {v : Int32} {x : Value} (h : va_OF RX7 n "I" x (wordAd k v) A s s.heap) (t : Cond.fieldLinkNest own idx RX7 n "I" host ∈ lw_tbl) (hdg : decode cc pc = .ok (.getfield idx, 3))
    (q : W p l e R s m args below meth c H locs cells slots Q (F0 m (pc + 3) ls (x :: rest))) : W p l e R s m args below meth c H locs cells slots Q (F0 m pc ls (.ref (wordAd k v) :: rest)) := by
  obtain ⟨cf, kk, fi, f, cell, h1, h2, h3, h4, h5, h6⟩ := h.kept hW.2.2.2.1
  exact va_Wgetf E.hx E.hb E.ho (E.w t rfl) h1 h2 h3 h4 (v := x) h5 rfl rfl hdg q
theorem k_wbit (hE : EH k) (E : E0 p s m c cc nL own k A) (hW : WD k A s.heap ws H locs) {host : String} {idx : Nat} {v : Int32} (hin : vp_in v 14) (t : Cond.fieldLinkNest own idx RX7 "bit" "I" host ∈ lw_tbl) (hdg : decode cc pc = .ok (.getfield idx, 3))
    (q : W p l e R s m args below meth c H locs cells slots Q (F0 m (pc + 3) ls (.int (wBit v) :: rest))) : W p l e R s m args below meth c H locs cells slots Q (F0 m pc ls (.ref (wordAd k v) :: rest)) := k_wgetN E hW ((hE.at E).2.1 _ (in_lt hin)) t hdg q
theorem k_wlow (hE : EH k) (E : E0 p s m c cc nL own k A) (hW : WD k A s.heap ws H locs) {host : String} {idx : Nat} {v : Int32} (hin : vp_in v 14) (t : Cond.fieldLinkNest own idx RX7 "low" "I" host ∈ lw_tbl) (hdg : decode cc pc = .ok (.getfield idx, 3))
    (q : W p l e R s m args below meth c H locs cells slots Q (F0 m (pc + 3) ls (.int (wLow v) :: rest))) : W p l e R s m args below meth c H locs cells slots Q (F0 m pc ls (.ref (wordAd k v) :: rest)) := k_wgetN E hW ((hE.at E).2.2.1 _ (in_lt hin)) t hdg q
theorem k_whigh (hE : EH k) (E : E0 p s m c cc nL own k A) (hW : WD k A s.heap ws H locs) {host : String} {idx : Nat} {v : Int32} (hin : vp_in v 14) (t : Cond.fieldLinkNest own idx RX7 "high" "I" host ∈ lw_tbl) (hdg : decode cc pc = .ok (.getfield idx, 3))
    (q : W p l e R s m args below meth c H locs cells slots Q (F0 m (pc + 3) ls (.int (wHigh v) :: rest))) : W p l e R s m args below meth c H locs cells slots Q (F0 m pc ls (.ref (wordAd k v) :: rest)) := k_wgetN E hW ((hE.at E).2.2.2.1 _ (in_lt hin)) t hdg q
theorem k_wusual (hE : EH k) (E : E0 p s m c cc nL own k A) (hW : WD k A s.heap ws H locs) {host : String} {idx : Nat} {v : Int32} (hin : vp_in v 14) (t : Cond.fieldLinkNest own idx RX7 "usual" "I" host ∈ lw_tbl) (hdg : decode cc pc = .ok (.getfield idx, 3))
    (q : W p l e R s m args below meth c H locs cells slots Q (F0 m (pc + 3) ls (.int (wUsual v) :: rest))) : W p l e R s m args below meth c H locs cells slots Q (F0 m pc ls (.ref (wordAd k v) :: rest)) := k_wgetN E hW ((hE.at E).2.2.2.2.1 _ (in_lt hin)) t hdg q
theorem k_wtext (hE : EH k) (E : E0 p s m c cc nL own k A) (hW : WD k A s.heap ws H locs) {idx : Nat} {v : Int32} (hin : vp_in v 14) (t : Cond.fieldLink own idx RX7 "text" "Ljava/lang/String;" ∈ lw_tbl) (hdg : decode cc pc = .ok (.getfield idx, 3))
    (q : W p l e R s m args below meth c H locs cells slots Q (F0 m (pc + 3) ls (.ref (strAd k v) :: rest))) : W p l e R s m args below meth c H locs cells slots Q (F0 m pc ls (.ref (wordAd k v) :: rest)) :=
  vk_getf E.hx E.hb ((hE.at E).2.2.2.2.2.2.1 _ (in_lt hin)) hW.2.2 E.ho (E.w t rfl) (fun _ h => h) hdg q
theorem k_lstr (hE : EH k) (E : E0 p s m c cc nL own k A) (hW : WD k A s.heap ws H locs) (t9 : RL = own) (i : Nat) (v : Int32) {idx : Nat} (hi : i < 10) (hv : v.toNatClampNeg = 15 + i) (hx : lIdxL.getD i 0 = idx) (hdg : decode cc pc = .ok (.ldc idx, 2))
    (q : W p l e R s m args below meth c H locs cells slots Q (F0 m (pc + 2) ls (.ref (strAd k v) :: rest))) : W p l e R s m args below meth c H locs cells slots Q (F0 m pc ls rest) := by
  subst t9
  subst hx
  have e : strAd k v = k.2.1.2 (35 + i) := by
    unfold strAd
    rw [hv, show 20 + (15 + i) = 35 + i by omega]
  rw [e] at q
  exact va_ldcS E.hx E.hb E.ho ((hE.at E).2.2.2.2.2.2.2.2.2.2.2.1 i hi) hdg q
theorem k_wacmp_eq (hE : EH k) (E : E0 p s m c cc nL own k A) {x y : Int32} (hx : vp_in x 14) (hy : vp_in y 14) {off : Int} {tgt : Nat} (hdg : decode cc pc = .ok (.if_acmp .eq off, 3)) (ht : (pc : Int) + off = (tgt : Int))
    (kt : x = y → W p l e R s m args below meth c H locs cells slots Q (F0 m tgt ls rest)) (kf : ¬ x = y → W p l e R s m args below meth c H locs cells slots Q (F0 m (pc + 3) ls rest)) : W p l e R s m args below meth c H locs cells slots Q (F0 m pc ls (.ref (wordAd k y) :: .ref (wordAd k x) :: rest)) :=
  lv_acmp_eq E.hx E.hb (rx := some (wordAd k x)) (ry := some (wordAd k y)) hdg ht (fun h => kt (in_inj hx hy (by decide) ((hE.at E).2.2.2.2.2.2.2.2.2.1 _ _ (in_lt hx) (in_lt hy) (Option.some.inj h)))) (fun h => kf (fun z => h (by rw [z])))
theorem k_wacmp_ne (hE : EH k) (E : E0 p s m c cc nL own k A) {x y : Int32} (hx : vp_in x 14) (hy : vp_in y 14) {off : Int} {tgt : Nat} (hdg : decode cc pc = .ok (.if_acmp .ne off, 3)) (ht : (pc : Int) + off = (tgt : Int))
    (kt : ¬ x = y → W p l e R s m args below meth c H locs cells slots Q (F0 m tgt ls rest)) (kf : x = y → W p l e R s m args below meth c H locs cells slots Q (F0 m (pc + 3) ls rest)) : W p l e R s m args below meth c H locs cells slots Q (F0 m pc ls (.ref (wordAd k y) :: .ref (wordAd k x) :: rest)) :=
  lv_acmp_ne E.hx E.hb (rx := some (wordAd k x)) (ry := some (wordAd k y)) hdg ht (fun h => kt (fun z => h (by rw [z]))) (fun h => kf (in_inj hx hy (by decide) ((hE.at E).2.2.2.2.2.2.2.2.2.1 _ _ (in_lt hx) (in_lt hy) (Option.some.inj h))))
/-- a call on a constant object: nothing of the world is handed over -/
theorem k_callO {C : String} {index mx n fr loc : Nat} {y : MethodName} {bytes : ByteArray} {ret : Option FieldType} {post : Int32 → Unit → Prop} {As : List Value} {lv : List (Nat × Value)} {st0 : List Value} {b : Nat}
    (hM : CG l k y bytes mx ret fr 0 0 loc (.ref b :: As) [] (Qi k (fun _ : Unit => []) post)) (E : E0 p s m c cc nL own k A) (hV : VL own index C y bytes mx ret n) (hO : va_O C b A s s.heap) (hdg : decode cc pc = .ok (.invokevirtual index, 3)) (hst : st0 = As.reverse ++ .ref b :: rest)
    (hW : WD k A s.heap ws H locs) (hA : ∀ q : Nat, s.heap.size ≤ q → A q) (hl : lv_has ls nL lv) (hn : As.length = n) (hR : fr + 1 ≤ R.frames ∧ 8 + (mx + 11) + loc ≤ R.locals) (hroom : cells ≤ R.cells ∧ slots ≤ R.slots) (hcat : (rest.map fun v => v.category).sum ≤ 8)
    (q : ∀ (r : Int32) (H1 : Heap) (locs1 : List Loc), post r () → WD k A s.heap ws H1 locs1 → W p l e R s m args below meth c H1 locs1 cells slots Q (F0 m (pc + 3) ls (.int r :: rest))) : W p l e R s m args below meth c H locs cells slots Q (F0 m pc ls st0) := by
  subst hst
  obtain ⟨hfree, hpre⟩ := pre_call (W0 := []) E rfl hW hA [] rfl rfl
  obtain ⟨cb, o1, o2, o3, o4⟩ := hO
  refine va_calli (va_runV (As := As) (rest := rest) E.fix (hM H.size) (hV.cw E hR) ⟨Bpre.blind, ⟨cb, by rw [hW.2.2.2.1 b (Array.getElem?_eq_some_iff.mp o1).1 o4]; exact o1, o2, o3⟩, fun U hU hw => ⟨rfl, hpre U hU hw⟩⟩ rfl hn hl.1 rfl (lv_room hcat) hdg hroom) hW.2.2 (fun q _ h => hfree q h) hfree (fun r u t H1 locs1 ht hvm hp hB hz hk hS => ?_)
  obtain ⟨hP1, hD1⟩ := hB
  rw [ht] at hP1
  obtain ⟨g1, g2⟩ := call_frame hW.1 hW.2.1 [] rfl (W1 := []) rfl hk hP1
  exact q r H1 locs1 hp ⟨g1, g2, hS⟩
theorem k_callS0 {index mx n fr loc : Nat} {y : MethodName} {bytes : ByteArray} {ret : Option FieldType} {post : Int32 → Unit → Prop} {As : List Value} {lv : List (Nat × Value)} {st0 : List Value}
    (hM : CG l k y bytes mx ret fr 0 0 loc As [] (Qi k (fun _ : Unit => []) post)) (E : E0 p s m c cc nL own k A) (hV : SL own index y bytes mx ret n) (hdg : decode cc pc = .ok (.invokestatic index, 3)) (hst : st0 = As.reverse ++ rest)
    (hW : WD k A s.heap ws H locs) (hA : ∀ q : Nat, s.heap.size ≤ q → A q) (hl : lv_has ls nL lv) (hn : As.length = n) (hR : fr + 1 ≤ R.frames ∧ 8 + (mx + 11) + loc ≤ R.locals) (hroom : cells ≤ R.cells ∧ slots ≤ R.slots) (hcat : (rest.map fun v => v.category).sum ≤ 8)
    (q : ∀ (r : Int32) (H1 : Heap) (locs1 : List Loc), post r () → WD k A s.heap ws H1 locs1 → W p l e R s m args below meth c H1 locs1 cells slots Q (F0 m (pc + 3) ls (.int r :: rest))) : W p l e R s m args below meth c H locs cells slots Q (F0 m pc ls st0) :=
  k_callSi (mc := 0) (ms := 0) hM E hV hdg hst [] hW hA hl hn rfl hR hroom hcat rfl (fun _ => rfl) (ws2 := fun _ => ws) (fun _ => rfl) (fun r _ H1 locs1 hp hW => q r H1 locs1 hp hW)
theorem k_callSv0 {index mx n fr loc : Nat} {y : MethodName} {bytes : ByteArray} {ret : Option FieldType} {post : Unit → Prop} {As : List Value} {lv : List (Nat × Value)} {st0 : List Value}
    (hM : CG l k y bytes mx ret fr 0 0 loc As [] (Qv k (fun _ : Unit => []) post)) (E : E0 p s m c cc nL own k A) (hV : SL own index y bytes mx ret n) (hdg : decode cc pc = .ok (.invokestatic index, 3)) (hst : st0 = As.reverse ++ rest)
    (hW : WD k A s.heap ws H locs) (hA : ∀ q : Nat, s.heap.size ≤ q → A q) (hl : lv_has ls nL lv) (hn : As.length = n) (hR : fr + 1 ≤ R.frames ∧ 8 + (mx + 11) + loc ≤ R.locals) (hroom : cells ≤ R.cells ∧ slots ≤ R.slots) (hcat : (rest.map fun v => v.category).sum ≤ 8)
    (q : ∀ (H1 : Heap) (locs1 : List Loc), WD k A s.heap ws H1 locs1 → W p l e R s m args below meth c H1 locs1 cells slots Q (F0 m (pc + 3) ls rest)) : W p l e R s m args below meth c H locs cells slots Q (F0 m pc ls st0) :=
  k_callSv (mc := 0) (ms := 0) hM E hV hdg hst [] hW hA hl hn rfl hR hroom hcat rfl (fun _ => rfl) (ws2 := fun _ => ws) (fun _ => rfl) (fun _ H1 locs1 _ hW => q H1 locs1 hW)
end KEN
theorem tm_1232 : (Jvm.Cond.fieldLink "java/lang/Enum" (7 : Nat) "java/lang/Enum" "ordinal" "I") ∈ lw_tbl := List.mem_of_getElem? (i := 1232) (by decide +kernel)
theorem tm_702 : (Jvm.Cond.fieldLink "java/lang/String" (38 : Nat) "java/lang/String" "COMPACT_STRINGS" "Z") ∈ lw_tbl := List.mem_of_getElem? (i := 702) (by decide +kernel)
theorem tm_1111 : (Jvm.Cond.fieldLink "java/lang/String" (15 : Nat) "java/lang/String" "coder" "B") ∈ lw_tbl := List.mem_of_getElem? (i := 1111) (by decide +kernel)
theorem tm_1110 : (Jvm.Cond.fieldLink "java/lang/String" (9 : Nat) "java/lang/String" "value" "[B") ∈ lw_tbl := List.mem_of_getElem? (i := 1110) (by decide +kernel)
theorem tm_718 : (Jvm.Cond.fieldLink "java/lang/String" (1053 : Nat) "jdk/internal/util/Preconditions" "SIOOBE_FORMATTER" "Ljava/util/function/BiFunction;") ∈ lw_tbl := List.mem_of_getElem? (i := 718) (by decide +kernel)
theorem tm_698 : (Jvm.Cond.methodLink "java/lang/String" (335 : Nat) ({ cls := "java/lang/String", name := "coder", desc := "()B" } : Jvm.MethodName)) ∈ lw_tbl := List.mem_of_getElem? (i := 698) (by decide +kernel)
theorem tm_699 : (Jvm.Cond.instanceMethod ({ cls := "java/lang/String", name := "coder", desc := "()B" } : Jvm.MethodName)) ∈ lw_tbl := List.mem_of_getElem? (i := 699) (by decide +kernel)
theorem tm_700 : (Jvm.Cond.selects "java/lang/String" ({ cls := "java/lang/String", name := "coder", desc := "()B" } : Jvm.MethodName) ({ cls := "java/lang/String", name := "coder", desc := "()B" } : Jvm.MethodName)) ∈ lw_tbl := List.mem_of_getElem? (i := 700) (by decide +kernel)
theorem tm_46 : (Jvm.Cond.initialized "java/lang/String") ∈ lw_tbl := List.mem_of_getElem? (i := 46) (by decide +kernel)
theorem tm_701 : (Jvm.Cond.code ({ cls := "java/lang/String", name := "coder", desc := "()B" } : Jvm.MethodName) prog_27_method_152_code (1 : Nat) (Option.some Jvm.ClassFile.FieldType.byte)) ∈ lw_tbl := List.mem_of_getElem? (i := 701) (by decide +kernel)
theorem tm_708 : (Jvm.Cond.methodLink "java/lang/String" (492 : Nat) ({ cls := "java/lang/String", name := "isLatin1", desc := "()Z" } : Jvm.MethodName)) ∈ lw_tbl := List.mem_of_getElem? (i := 708) (by decide +kernel)
theorem tm_709 : (Jvm.Cond.instanceMethod ({ cls := "java/lang/String", name := "isLatin1", desc := "()Z" } : Jvm.MethodName)) ∈ lw_tbl := List.mem_of_getElem? (i := 709) (by decide +kernel)
theorem tm_710 : (Jvm.Cond.selects "java/lang/String" ({ cls := "java/lang/String", name := "isLatin1", desc := "()Z" } : Jvm.MethodName) ({ cls := "java/lang/String", name := "isLatin1", desc := "()Z" } : Jvm.MethodName)) ∈ lw_tbl := List.mem_of_getElem? (i := 710) (by decide +kernel)
theorem tm_711 : (Jvm.Cond.code ({ cls := "java/lang/String", name := "isLatin1", desc := "()Z" } : Jvm.MethodName) prog_27_method_154_code (1 : Nat) (Option.some Jvm.ClassFile.FieldType.boolean)) ∈ lw_tbl := List.mem_of_getElem? (i := 711) (by decide +kernel)
theorem tm_720 : (Jvm.Cond.methodLink "java/lang/String" (1059 : Nat) ({ cls := "jdk/internal/util/Preconditions", name := "checkIndex", desc := "(IILjava/util/function/BiFunction;)I" } : Jvm.MethodName)) ∈ lw_tbl := List.mem_of_getElem? (i := 720) (by decide +kernel)
theorem tm_721 : (Jvm.Cond.static ({ cls := "jdk/internal/util/Preconditions", name := "checkIndex", desc := "(IILjava/util/function/BiFunction;)I" } : Jvm.MethodName)) ∈ lw_tbl := List.mem_of_getElem? (i := 721) (by decide +kernel)
theorem tm_50 : (Jvm.Cond.initialized "jdk/internal/util/Preconditions") ∈ lw_tbl := List.mem_of_getElem? (i := 50) (by decide +kernel)
theorem tm_722 : (Jvm.Cond.code ({ cls := "jdk/internal/util/Preconditions", name := "checkIndex", desc := "(IILjava/util/function/BiFunction;)I" } : Jvm.MethodName) prog_38_method_11_code (3 : Nat) (Option.some Jvm.ClassFile.FieldType.int)) ∈ lw_tbl := List.mem_of_getElem? (i := 722) (by decide +kernel)
theorem tm_715 : (Jvm.Cond.methodLink "java/lang/StringLatin1" (9 : Nat) ({ cls := "java/lang/String", name := "checkIndex", desc := "(II)V" } : Jvm.MethodName)) ∈ lw_tbl := List.mem_of_getElem? (i := 715) (by decide +kernel)
theorem tm_716 : (Jvm.Cond.static ({ cls := "java/lang/String", name := "checkIndex", desc := "(II)V" } : Jvm.MethodName)) ∈ lw_tbl := List.mem_of_getElem? (i := 716) (by decide +kernel)
theorem tm_717 : (Jvm.Cond.code ({ cls := "java/lang/String", name := "checkIndex", desc := "(II)V" } : Jvm.MethodName) prog_27_method_155_code (2 : Nat) (Option.none : Option Jvm.ClassFile.FieldType)) ∈ lw_tbl := List.mem_of_getElem? (i := 717) (by decide +kernel)
theorem tm_712 : (Jvm.Cond.methodLink "java/lang/String" (495 : Nat) ({ cls := "java/lang/StringLatin1", name := "charAt", desc := "([BI)C" } : Jvm.MethodName)) ∈ lw_tbl := List.mem_of_getElem? (i := 712) (by decide +kernel)
theorem tm_713 : (Jvm.Cond.static ({ cls := "java/lang/StringLatin1", name := "charAt", desc := "([BI)C" } : Jvm.MethodName)) ∈ lw_tbl := List.mem_of_getElem? (i := 713) (by decide +kernel)
theorem tm_51 : (Jvm.Cond.initialized "java/lang/StringLatin1") ∈ lw_tbl := List.mem_of_getElem? (i := 51) (by decide +kernel)
theorem tm_714 : (Jvm.Cond.code ({ cls := "java/lang/StringLatin1", name := "charAt", desc := "([BI)C" } : Jvm.MethodName) prog_29_method_2_code (2 : Nat) (Option.some Jvm.ClassFile.FieldType.char)) ∈ lw_tbl := List.mem_of_getElem? (i := 714) (by decide +kernel)
theorem vl_J0_335 : VL RJ0 335 RJ0 yJ0_coder_7d493 cJ0_coder_7d493 1 (some .byte) 0 := ⟨⟨tm_698, tm_699, tm_700, tm_46, tm_701⟩, by decide +kernel⟩
theorem vl_J0_492 : VL RJ0 492 RJ0 yJ0_isLatin1_aae02 cJ0_isLatin1_aae02 1 (some .boolean) 0 := ⟨⟨tm_708, tm_709, tm_710, tm_46, tm_711⟩, by decide +kernel⟩
theorem sl_J0_1059 : SL RJ0 1059 yJ3_checkIndex_8e157 cJ3_checkIndex_8e157 3 (some .int) 3 := ⟨⟨tm_720, tm_721, tm_50, tm_722⟩, by decide +kernel⟩
theorem sl_J1_9 : SL RJ1 9 yJ0_checkIndex_df160 cJ0_checkIndex_df160 2 none 2 := ⟨⟨tm_715, tm_716, tm_46, tm_717⟩, by decide +kernel⟩
theorem sl_J0_495 : SL RJ0 495 yJ1_charAt_3b067 cJ1_charAt_3b067 2 (some .char) 2 := ⟨⟨tm_712, tm_713, tm_51, tm_714⟩, by decide +kernel⟩
theorem dJx29ce0_ordinal_8abf5_0 : decode cJx29ce0_ordinal_8abf5 0 = .ok (.aload_n 0, 1) := by decide +kernel
theorem dJx29ce0_ordinal_8abf5_1 : decode cJx29ce0_ordinal_8abf5 1 = .ok (.getfield 7, 3) := by decide +kernel
theorem dJx29ce0_ordinal_8abf5_4 : decode cJx29ce0_ordinal_8abf5 4 = .ok (.ireturn, 1) := by decide +kernel
theorem dJ0_coder_7d493_0 : decode cJ0_coder_7d493 0 = .ok (.getstatic 38, 3) := by decide +kernel
theorem dJ0_coder_7d493_3 : decode cJ0_coder_7d493 3 = .ok (.ifCond .eq 10, 3) := by decide +kernel
theorem dJ0_coder_7d493_6 : decode cJ0_coder_7d493 6 = .ok (.aload_n 0, 1) := by decide +kernel
theorem dJ0_coder_7d493_7 : decode cJ0_coder_7d493 7 = .ok (.getfield 15, 3) := by decide +kernel
theorem dJ0_coder_7d493_10 : decode cJ0_coder_7d493 10 = .ok (.goto 4, 3) := by decide +kernel
theorem dJ0_coder_7d493_13 : decode cJ0_coder_7d493 13 = .ok (.iconst 1, 1) := by decide +kernel
theorem dJ0_coder_7d493_14 : decode cJ0_coder_7d493 14 = .ok (.ireturn, 1) := by decide +kernel
theorem dJ0_isLatin1_aae02_0 : decode cJ0_isLatin1_aae02 0 = .ok (.getstatic 38, 3) := by decide +kernel
theorem dJ0_isLatin1_aae02_3 : decode cJ0_isLatin1_aae02 3 = .ok (.ifCond .eq 14, 3) := by decide +kernel
theorem dJ0_isLatin1_aae02_6 : decode cJ0_isLatin1_aae02 6 = .ok (.aload_n 0, 1) := by decide +kernel
theorem dJ0_isLatin1_aae02_7 : decode cJ0_isLatin1_aae02 7 = .ok (.getfield 15, 3) := by decide +kernel
theorem dJ0_isLatin1_aae02_10 : decode cJ0_isLatin1_aae02 10 = .ok (.ifCond .ne 7, 3) := by decide +kernel
theorem dJ0_isLatin1_aae02_13 : decode cJ0_isLatin1_aae02 13 = .ok (.iconst 1, 1) := by decide +kernel
theorem dJ0_isLatin1_aae02_14 : decode cJ0_isLatin1_aae02 14 = .ok (.goto 4, 3) := by decide +kernel
theorem dJ0_isLatin1_aae02_17 : decode cJ0_isLatin1_aae02 17 = .ok (.iconst 0, 1) := by decide +kernel
theorem dJ0_isLatin1_aae02_18 : decode cJ0_isLatin1_aae02 18 = .ok (.ireturn, 1) := by decide +kernel
theorem dJ0_length_8abf5_0 : decode cJ0_length_8abf5 0 = .ok (.aload_n 0, 1) := by decide +kernel
theorem dJ0_length_8abf5_1 : decode cJ0_length_8abf5 1 = .ok (.getfield 9, 3) := by decide +kernel
theorem dJ0_length_8abf5_4 : decode cJ0_length_8abf5 4 = .ok (.arraylength, 1) := by decide +kernel
theorem dJ0_length_8abf5_5 : decode cJ0_length_8abf5 5 = .ok (.aload_n 0, 1) := by decide +kernel
theorem dJ0_length_8abf5_6 : decode cJ0_length_8abf5 6 = .ok (.invokevirtual 335, 3) := by decide +kernel
theorem dJ0_length_8abf5_9 : decode cJ0_length_8abf5 9 = .ok (.ishr, 1) := by decide +kernel
theorem dJ0_length_8abf5_10 : decode cJ0_length_8abf5 10 = .ok (.ireturn, 1) := by decide +kernel
theorem dJ3_checkIndex_8e157_0 : decode cJ3_checkIndex_8e157 0 = .ok (.iload_n 0, 1) := by decide +kernel
theorem dJ3_checkIndex_8e157_1 : decode cJ3_checkIndex_8e157 1 = .ok (.ifCond .lt 8, 3) := by decide +kernel
theorem dJ3_checkIndex_8e157_4 : decode cJ3_checkIndex_8e157 4 = .ok (.iload_n 0, 1) := by decide +kernel
theorem dJ3_checkIndex_8e157_5 : decode cJ3_checkIndex_8e157 5 = .ok (.iload_n 1, 1) := by decide +kernel
theorem dJ3_checkIndex_8e157_6 : decode cJ3_checkIndex_8e157 6 = .ok (.if_icmp .lt 10, 3) := by decide +kernel
theorem dJ3_checkIndex_8e157_9 : decode cJ3_checkIndex_8e157 9 = .ok (.aload_n 2, 1) := by decide +kernel
theorem dJ3_checkIndex_8e157_10 : decode cJ3_checkIndex_8e157 10 = .ok (.iload_n 0, 1) := by decide +kernel
theorem dJ3_checkIndex_8e157_11 : decode cJ3_checkIndex_8e157 11 = .ok (.iload_n 1, 1) := by decide +kernel
theorem dJ3_checkIndex_8e157_12 : decode cJ3_checkIndex_8e157 12 = .ok (.invokestatic 95, 3) := by decide +kernel
theorem dJ3_checkIndex_8e157_15 : decode cJ3_checkIndex_8e157 15 = .ok (.athrow, 1) := by decide +kernel
theorem dJ3_checkIndex_8e157_16 : decode cJ3_checkIndex_8e157 16 = .ok (.iload_n 0, 1) := by decide +kernel
theorem dJ3_checkIndex_8e157_17 : decode cJ3_checkIndex_8e157 17 = .ok (.ireturn, 1) := by decide +kernel
theorem dJ0_checkIndex_df160_0 : decode cJ0_checkIndex_df160 0 = .ok (.iload_n 0, 1) := by decide +kernel
theorem dJ0_checkIndex_df160_1 : decode cJ0_checkIndex_df160 1 = .ok (.iload_n 1, 1) := by decide +kernel
theorem dJ0_checkIndex_df160_2 : decode cJ0_checkIndex_df160 2 = .ok (.getstatic 1053, 3) := by decide +kernel
theorem dJ0_checkIndex_df160_5 : decode cJ0_checkIndex_df160 5 = .ok (.invokestatic 1059, 3) := by decide +kernel
theorem dJ0_checkIndex_df160_8 : decode cJ0_checkIndex_df160 8 = .ok (.pop, 1) := by decide +kernel
theorem dJ0_checkIndex_df160_9 : decode cJ0_checkIndex_df160 9 = .ok (.return_, 1) := by decide +kernel
theorem dJ1_charAt_3b067_0 : decode cJ1_charAt_3b067 0 = .ok (.iload_n 1, 1) := by decide +kernel
theorem dJ1_charAt_3b067_1 : decode cJ1_charAt_3b067 1 = .ok (.aload_n 0, 1) := by decide +kernel
theorem dJ1_charAt_3b067_2 : decode cJ1_charAt_3b067 2 = .ok (.arraylength, 1) := by decide +kernel
theorem dJ1_charAt_3b067_3 : decode cJ1_charAt_3b067 3 = .ok (.invokestatic 9, 3) := by decide +kernel
theorem dJ1_charAt_3b067_6 : decode cJ1_charAt_3b067 6 = .ok (.aload_n 0, 1) := by decide +kernel
theorem dJ1_charAt_3b067_7 : decode cJ1_charAt_3b067 7 = .ok (.iload_n 1, 1) := by decide +kernel
theorem dJ1_charAt_3b067_8 : decode cJ1_charAt_3b067 8 = .ok (.baload, 1) := by decide +kernel
theorem dJ1_charAt_3b067_9 : decode cJ1_charAt_3b067 9 = .ok (.sipush 255, 3) := by decide +kernel
theorem dJ1_charAt_3b067_12 : decode cJ1_charAt_3b067 12 = .ok (.iand, 1) := by decide +kernel
theorem dJ1_charAt_3b067_13 : decode cJ1_charAt_3b067 13 = .ok (.i2c, 1) := by decide +kernel
theorem dJ1_charAt_3b067_14 : decode cJ1_charAt_3b067 14 = .ok (.ireturn, 1) := by decide +kernel
theorem dJ0_charAt_5068e_0 : decode cJ0_charAt_5068e 0 = .ok (.aload_n 0, 1) := by decide +kernel
theorem dJ0_charAt_5068e_1 : decode cJ0_charAt_5068e 1 = .ok (.invokevirtual 492, 3) := by decide +kernel
theorem dJ0_charAt_5068e_4 : decode cJ0_charAt_5068e 4 = .ok (.ifCond .eq 12, 3) := by decide +kernel
theorem dJ0_charAt_5068e_7 : decode cJ0_charAt_5068e 7 = .ok (.aload_n 0, 1) := by decide +kernel
theorem dJ0_charAt_5068e_8 : decode cJ0_charAt_5068e 8 = .ok (.getfield 9, 3) := by decide +kernel
theorem dJ0_charAt_5068e_11 : decode cJ0_charAt_5068e 11 = .ok (.iload_n 1, 1) := by decide +kernel
theorem dJ0_charAt_5068e_12 : decode cJ0_charAt_5068e 12 = .ok (.invokestatic 495, 3) := by decide +kernel
theorem dJ0_charAt_5068e_15 : decode cJ0_charAt_5068e 15 = .ok (.ireturn, 1) := by decide +kernel
theorem dJ0_charAt_5068e_16 : decode cJ0_charAt_5068e 16 = .ok (.aload_n 0, 1) := by decide +kernel
theorem dJ0_charAt_5068e_17 : decode cJ0_charAt_5068e 17 = .ok (.getfield 9, 3) := by decide +kernel
theorem dJ0_charAt_5068e_20 : decode cJ0_charAt_5068e 20 = .ok (.iload_n 1, 1) := by decide +kernel
theorem dJ0_charAt_5068e_21 : decode cJ0_charAt_5068e 21 = .ok (.invokestatic 498, 3) := by decide +kernel
theorem dJ0_charAt_5068e_24 : decode cJ0_charAt_5068e 24 = .ok (.ireturn, 1) := by decide +kernel
/-- the place of a word -/
theorem c_ord (l : Launch) (k : KT) (hE : EH k) (v : Int32) (hin : vp_in v 14) : CG l k yJx29ce0_ordinal_8abf5 cJx29ce0_ordinal_8abf5 1 (some .int) 0 0 0 0 [.ref (wordAd k v)] [] (Qi k (fun _ : Unit => []) (fun (r : Int32) (_ : Unit) => v = r)) := by
  refine CG.ofI (by decide) (Nat.le_of_ble_eq_true rfl) (fun p e s m args below meth c A Q E hnm hW hA hret ls hl => ?_)
  have hl : lv_has ls 1 [(0, .ref (wordAd k v))] := hl
  refine k_aload_n E hl 0 dJx29ce0_ordinal_8abf5_0 rfl ?_
  refine vk_getf E.hx E.hb ((hE.at E).2.2.2.2.2.1 _ (in_lt hin)) hW.2.2 E.ho (E.w tm_1232 rfl) (fun _ h => h) dJx29ce0_ordinal_8abf5_1 ?_
  refine k_topi (y := v) (in_nI hin (by decide)).symm ?_
  exact hret _ () _ _ _ _ _ _ hW rfl rfl (by decide) (by decide) dJx29ce0_ordinal_8abf5_4
def UL (own : String) (index : Nat) : Prop := ∀ w ∈ va_wsU own index RX7 "java/lang/Enum" ⟨"MemoryCourt$Word", "ordinal", "()I"⟩ yJx29ce0_ordinal_8abf5 [Cond.code yJx29ce0_ordinal_8abf5 cJx29ce0_ordinal_8abf5 1 (some .int)], w ∈ lw_tbl ∧ tbOK w = true ∧ goodWord w = true
theorem k_ordinal {p : Program} {l : Launch} {e : Env} {R : Room} {s : State} {m : MethodId} {args : Array Value} {below : List Frame} {meth : Method} {c : Code} {H : Heap} {locs : List Loc} {cells slots : Nat} {Q : State → Prop} {cc : ByteArray} {pc nL : Nat} {ls : Array Slot} {rest : List Value} {k : KT} {A : Nat → Prop} {ws : va_W} {own : String} {index : Nat} {lv : List (Nat × Value)}
    (hE : EH k) (E : E0 p s m c cc nL own k A) (hU : UL own index) (v : Int32) (hin : vp_in v 14) (hdg : decode cc pc = .ok (.invokevirtual index, 3))
    (hW : WD k A s.heap ws H locs) (hA : ∀ q : Nat, s.heap.size ≤ q → A q) (hl : lv_has ls nL lv) (hR : 1 ≤ R.frames ∧ 20 ≤ R.locals) (hroom : cells ≤ R.cells ∧ slots ≤ R.slots) (hcat : (rest.map fun v => v.category).sum ≤ 8)
    (q : ∀ (H1 : Heap) (locs1 : List Loc), WD k A s.heap ws H1 locs1 → W p l e R s m args below meth c H1 locs1 cells slots Q (F0 m (pc + 3) ls (.int v :: rest))) : W p l e R s m args below meth c H locs cells slots Q (F0 m pc ls (.ref (wordAd k v) :: rest)) := by
  obtain ⟨hfree, hpre⟩ := pre_call (W0 := []) E rfl hW hA [] rfl rfl
  obtain ⟨cb, o1, o2, o3, o4⟩ := ((hE.at E).1 _ (in_lt hin)).2
  have cw : va_CU R s args own RX7 "java/lang/Enum" index ⟨"MemoryCourt$Word", "ordinal", "()I"⟩ yJx29ce0_ordinal_8abf5 cJx29ce0_ordinal_8abf5 1 (some .int) [Cond.code yJx29ce0_ordinal_8abf5 cJx29ce0_ordinal_8abf5 1 (some .int)] { frames := 0, cells := 0, slots := 0, locals := 0 } 0 0 0 :=
    va_cwU 0 E.fix.2.2.2.2 (fun w hw => ⟨List.mem_filter.mpr ⟨(hU w hw).1, (hU w hw).2.1⟩, good_of_word (hU w hw).2.2⟩) rfl rfl rfl rfl (by decide +kernel) hR
  refine va_calli (va_runU (As := []) (rest := rest) (b := wordAd k v) E.fix (c_ord l k hE v hin H.size) cw ⟨Bpre.blind, ⟨cb, (hW.2.2.2.1 _ (Array.getElem?_eq_some_iff.mp o1).1 o4).trans o1, o2, o3⟩, fun U hU hw => ⟨rfl, hpre U hU hw⟩⟩ rfl rfl hl.1 rfl (lv_room hcat) hdg hroom) hW.2.2 (fun q _ h => hfree q h) hfree (fun r u t H1 locs1 ht hvm hp hB hz hk hS => ?_)
  obtain ⟨hP1, hD1⟩ := hB
  rw [ht] at hP1
  obtain ⟨g1, g2⟩ := call_frame hW.1 hW.2.1 [] rfl (W1 := []) rfl hk hP1
  subst hp
  exact q H1 locs1 ⟨g1, g2, hS⟩
/-! the JDK's members that read a constant text -/
theorem strF {k : KT} (hE : EH k) {p : Program} {s : State} {m : MethodId} {c : Code} {cc : ByteArray} {nL : Nat} {own : String} {A : Nat → Prop} (E : E0 p s m c cc nL own k A) {v : Int32} (hin : sIn v) : va_O "java/lang/String" (strAd k v) A s s.heap ∧ va_OF "java/lang/String" "coder" "B" (.int 0) (strAd k v) A s s.heap ∧ va_OF "java/lang/String" "value" "[B" (.ref (k.2.1.2 (60 + v.toNatClampNeg))) (strAd k v) A s s.heap ∧ va_T .byte (k.2.1.2 (60 + v.toNatClampNeg)) (sLenL.getD v.toNatClampNeg 0) (fun j => .int ((sBytL.getD v.toNatClampNeg []).getD j 0)) A s s.heap :=
  (hE.at E).2.2.2.2.2.2.2.2.2.2.1 _ hin.1 hin.2
theorem sIn_of {v : Int32} (h : vp_in v 14) : sIn v := ⟨Nat.lt_trans (in_lt h) (by decide), Nat.ne_of_lt (in_lt h)⟩
theorem sLen_lt (i : Nat) : sLenL.getD i 0 < 2 ^ 31 := by
  rcases Nat.lt_or_ge i 25 with h | h
  · have : ∀ i, i < 25 → sLenL.getD i 0 < 2 ^ 31 := by decide +kernel
    exact this i h
  · rw [List.getD_eq_getElem?_getD, List.getElem?_eq_none (by show 25 ≤ i; exact h)]; decide
theorem c_coder (l : Launch) (k : KT) (hE : EH k) (v : Int32) (hin : sIn v) : CG l k yJ0_coder_7d493 cJ0_coder_7d493 1 (some .byte) 0 0 0 0 [.ref (strAd k v)] [] (Qi k (fun _ : Unit => []) (fun (r : Int32) (_ : Unit) => 0 = r)) := by
  refine CG.ofI (by decide) (Nat.le_of_ble_eq_true rfl) (fun p e s m args below meth c A Q E hnm hW hA hret ls hl => ?_)
  have hl : lv_has ls 1 [(0, .ref (strAd k v))] := hl
  refine va_gets E.hx E.hb (hE.at E).2.2.2.2.2.2.2.2.2.2.2.2.1 hW.2.2 E.ho (E.w tm_702 rfl) (fun _ h => h) dJ0_coder_7d493_0 ?_
  refine lv_if_eq (tgt := 13) E.hx E.hb dJ0_coder_7d493_3 (by decide) (fun hc => absurd hc (by decide)) (fun hc => ?_)
  refine k_aload_n E hl 0 dJ0_coder_7d493_6 rfl ?_
  refine vk_getf E.hx E.hb (strF hE E hin).2.1 hW.2.2 E.ho (E.w tm_1111 rfl) (fun _ h => h) dJ0_coder_7d493_7 ?_
  refine lv_goto (tgt := 14) E.hx E.hb dJ0_coder_7d493_10 (by decide) ?_
  exact hret _ () _ _ _ _ _ _ hW rfl rfl (by decide) (by decide) dJ0_coder_7d493_14
theorem c_latin (l : Launch) (k : KT) (hE : EH k) (v : Int32) (hin : sIn v) : CG l k yJ0_isLatin1_aae02 cJ0_isLatin1_aae02 1 (some .boolean) 0 0 0 0 [.ref (strAd k v)] [] (Qi k (fun _ : Unit => []) (fun (r : Int32) (_ : Unit) => 1 = r)) := by
  refine CG.ofI (by decide) (Nat.le_of_ble_eq_true rfl) (fun p e s m args below meth c A Q E hnm hW hA hret ls hl => ?_)
  have hl : lv_has ls 1 [(0, .ref (strAd k v))] := hl
  refine va_gets E.hx E.hb (hE.at E).2.2.2.2.2.2.2.2.2.2.2.2.1 hW.2.2 E.ho (E.w tm_702 rfl) (fun _ h => h) dJ0_isLatin1_aae02_0 ?_
  refine lv_if_eq (tgt := 17) E.hx E.hb dJ0_isLatin1_aae02_3 (by decide) (fun hc => absurd hc (by decide)) (fun hc => ?_)
  refine k_aload_n E hl 0 dJ0_isLatin1_aae02_6 rfl ?_
  refine vk_getf E.hx E.hb (strF hE E hin).2.1 hW.2.2 E.ho (E.w tm_1111 rfl) (fun _ h => h) dJ0_isLatin1_aae02_7 ?_
  refine lv_if_ne (tgt := 17) E.hx E.hb dJ0_isLatin1_aae02_10 (by decide) (fun hc => absurd rfl hc) (fun hc => ?_)
  refine lv_iconst (v := (1 : Int32)) E.hx E.hb dJ0_isLatin1_aae02_13 (by decide) ?_
  refine lv_goto (tgt := 18) E.hx E.hb dJ0_isLatin1_aae02_14 (by decide) ?_
  exact hret _ () _ _ _ _ _ _ hW rfl rfl (by decide) (by decide) dJ0_isLatin1_aae02_18
theorem c_slen (l : Launch) (k : KT) (hE : EH k) (v : Int32) (hin : sIn v) : CG l k yJ0_length_8abf5 cJ0_length_8abf5 1 (some .int) 1 0 0 20 [.ref (strAd k v)] [] (Qi k (fun _ : Unit => []) (fun (r : Int32) (_ : Unit) => sLen v = r)) := by
  refine CG.ofI (by decide) (Nat.le_of_ble_eq_true rfl) (fun p e s m args below meth c A Q E hnm hW hA hret ls hl => ?_)
  have hl : lv_has ls 1 [(0, .ref (strAd k v))] := hl
  obtain ⟨h1, h2, h3, h4⟩ := strF hE E hin
  refine k_aload_n E hl 0 dJ0_length_8abf5_0 rfl ?_
  refine vk_getf E.hx E.hb h3 hW.2.2 E.ho (E.w tm_1110 rfl) (fun _ h => h) dJ0_length_8abf5_1 ?_
  refine va_tlen (v := sLen v) E.hx E.hb h4 hW.2.2 rfl dJ0_length_8abf5_4 ?_
  refine k_aload_n E hl 0 dJ0_length_8abf5_5 rfl ?_
  refine k_callO (As := []) (c_coder l k hE v hin) E vl_J0_335 h1 dJ0_length_8abf5_6 rfl hW hA hl rfl ⟨by decide, by decide⟩ ⟨by decide, by decide⟩ (Nat.le_of_ble_eq_true rfl) (fun r H locs hp hW => ?_)
  subst hp
  refine lv_ishr E.hx E.hb dJ0_length_8abf5_9 ?_
  refine k_topi (y := sLen v) (sc_shr0 (sLen_lt _)).symm ?_
  exact hret _ () _ _ _ _ _ _ hW rfl rfl (by decide) (by decide) dJ0_length_8abf5_10
theorem c_pre (l : Launch) (k : KT) (i n : Int32) (fv : Value) (hfv : fv = .null ∨ ∃ t, fv = .ref t) (h0 : ¬ i < 0) (h1 : i < n) : CG l k yJ3_checkIndex_8e157 cJ3_checkIndex_8e157 3 (some .int) 0 0 0 0 [.int i, .int n, fv] [] (Qi k (fun _ : Unit => []) (fun (r : Int32) (_ : Unit) => i = r)) := by
  have key : ∀ fv : Value, (lg_sl [.int i, .int n, fv]).length ≤ 3 → (∀ ls : Array Slot, lv_has ls 3 (lv_args 0 [.int i, .int n, fv]) → lv_has ls 3 [(0, .int i), (1, .int n)]) → CG l k yJ3_checkIndex_8e157 cJ3_checkIndex_8e157 3 (some .int) 0 0 0 0 [.int i, .int n, fv] [] (Qi k (fun _ : Unit => []) (fun (r : Int32) (_ : Unit) => i = r)) := by
    intro fv hlen hls
    refine CG.ofI (by decide) hlen (fun p e s m args below meth c A Q E hnm hW hA hret ls hl => ?_)
    have hl := hls ls hl
    refine k_iload_n E hl 0 dJ3_checkIndex_8e157_0 rfl ?_
    refine lv_if_lt (tgt := 9) E.hx E.hb dJ3_checkIndex_8e157_1 (by decide) (fun hc => absurd hc h0) (fun hc => ?_)
    refine k_iload_n E hl 0 dJ3_checkIndex_8e157_4 rfl ?_
    refine k_iload_n E hl 1 dJ3_checkIndex_8e157_5 rfl ?_
    refine lv_icmp_lt (tgt := 16) E.hx E.hb dJ3_checkIndex_8e157_6 (by decide) (fun hc => ?_) (fun hc => absurd h1 hc)
    refine k_iload_n E hl 0 dJ3_checkIndex_8e157_16 rfl ?_
    exact hret _ () _ _ _ _ _ _ hW rfl rfl (by decide) (by decide) dJ3_checkIndex_8e157_17
  rcases hfv with rfl | ⟨t, rfl⟩
  · exact key _ (Nat.le_of_ble_eq_true rfl) (fun ls hl => lv_sub hl [0, 1] rfl)
  · exact key _ (Nat.le_of_ble_eq_true rfl) (fun ls hl => lv_sub hl [0, 1] rfl)
theorem c_chk (l : Launch) (k : KT) (hE : EH k) (i n : Int32) (h0 : ¬ i < 0) (h1 : i < n) : CG l k yJ0_checkIndex_df160 cJ0_checkIndex_df160 2 none 1 0 0 22 [.int i, .int n] [] (Qv k (fun _ : Unit => []) (fun _ : Unit => True)) := by
  refine CG.ofV (by decide) (Nat.le_of_ble_eq_true rfl) (fun p e s m args below meth c A Q E hnm hW hA hret ls hl => ?_)
  have hl : lv_has ls 2 [(0, .int i), (1, .int n)] := hl
  refine k_iload_n E hl 0 dJ0_checkIndex_df160_0 rfl ?_
  refine k_iload_n E hl 1 dJ0_checkIndex_df160_1 rfl ?_
  have go : ∀ fv : Value, (fv = .null ∨ ∃ t, fv = .ref t) → va_Z "jdk/internal/util/Preconditions" "SIOOBE_FORMATTER" "Ljava/util/function/BiFunction;" fv A s s.heap → W p l e { frames := 1, cells := 0, slots := 0, locals := 22 } s m args below meth c s.heap [] 0 0 Q (F0 m 2 ls [.int n, .int i]) := by
    intro fv hfv hZ
    refine va_gets E.hx E.hb hZ hW.2.2 E.ho (E.w tm_718 rfl) (fun _ h => h) dJ0_checkIndex_df160_2 ?_
    refine k_callS0 (As := [.int i, .int n, fv]) (rest := []) (c_pre l k i n fv hfv h0 h1) E sl_J0_1059 dJ0_checkIndex_df160_5 rfl hW hA hl rfl ⟨by decide, by decide⟩ ⟨by decide, by decide⟩ (Nat.le_of_ble_eq_true rfl) (fun r H locs hp hW => ?_)
    refine lv_pop E.hx E.hb dJ0_checkIndex_df160_8 rfl ?_
    exact hret () _ _ _ _ _ _ hW trivial (by decide) (by decide) dJ0_checkIndex_df160_9
  rcases (hE.at E).2.2.2.2.2.2.2.2.2.2.2.2.2 with h | ⟨t, h⟩
  · exact go .null (Or.inl rfl) h
  · exact go (.ref t) (Or.inr ⟨t, rfl⟩) h
theorem c_l1at (l : Launch) (k : KT) (hE : EH k) (v i : Int32) (hin : sIn v) (hi : vp_in i (sLenL.getD v.toNatClampNeg 0)) : CG l k yJ1_charAt_3b067 cJ1_charAt_3b067 2 (some .char) 2 0 0 43 [.ref (k.2.1.2 (60 + v.toNatClampNeg)), .int i] [] (Qi k (fun _ : Unit => []) (fun (r : Int32) (_ : Unit) => sChr v i = r)) := by
  refine CG.ofI (by decide) (Nat.le_of_ble_eq_true rfl) (fun p e s m args below meth c A Q E hnm hW hA hret ls hl => ?_)
  have hl : lv_has ls 2 [(0, .ref (k.2.1.2 (60 + v.toNatClampNeg))), (1, .int i)] := hl
  obtain ⟨h1, h2, h3, h4⟩ := strF hE E hin
  have hlt : ¬ i < 0 ∧ i < sLen v := by
    obtain ⟨j, hj, rfl⟩ := vp_in_of hi (sLen_lt _)
    exact ⟨nI_pos (Nat.lt_trans hj (sLen_lt _)), nI_lt hj (sLen_lt _)⟩
  refine k_iload_n E hl 1 dJ1_charAt_3b067_0 rfl ?_
  refine k_aload_n E hl 0 dJ1_charAt_3b067_1 rfl ?_
  refine va_tlen (v := sLen v) E.hx E.hb h4 hW.2.2 rfl dJ1_charAt_3b067_2 ?_
  refine k_callSv0 (As := [.int i, .int (sLen v)]) (rest := []) (c_chk l k hE i (sLen v) hlt.1 hlt.2) E sl_J1_9 dJ1_charAt_3b067_3 rfl hW hA hl rfl ⟨by decide, by decide⟩ ⟨by decide, by decide⟩ (Nat.le_of_ble_eq_true rfl) (fun H locs hW => ?_)
  refine k_aload_n E hl 0 dJ1_charAt_3b067_6 rfl ?_
  refine k_iload_n E hl 1 dJ1_charAt_3b067_7 rfl ?_
  refine va_tb E.hx E.hb h4 hW.2.2 hi rfl dJ1_charAt_3b067_8 ?_
  refine lv_sipush (v := (255 : Int32)) E.hx E.hb dJ1_charAt_3b067_9 sp_255 ?_
  refine lv_iand E.hx E.hb dJ1_charAt_3b067_12 ?_
  refine lv_i2c (v := sChr v i) E.hx E.hb dJ1_charAt_3b067_13 (sc_c2 _) ?_
  exact hret _ () _ _ _ _ _ _ hW rfl (sc_nar _) (by decide) (by decide) dJ1_charAt_3b067_14
theorem c_sat (l : Launch) (k : KT) (hE : EH k) (v i : Int32) (hin : sIn v) (hi : vp_in i (sLenL.getD v.toNatClampNeg 0)) : CG l k yJ0_charAt_5068e cJ0_charAt_5068e 2 (some .char) 3 0 0 64 [.ref (strAd k v), .int i] [] (Qi k (fun _ : Unit => []) (fun (r : Int32) (_ : Unit) => sChr v i = r)) := by
  refine CG.ofI (by decide) (Nat.le_of_ble_eq_true rfl) (fun p e s m args below meth c A Q E hnm hW hA hret ls hl => ?_)
  have hl : lv_has ls 2 [(0, .ref (strAd k v)), (1, .int i)] := hl
  obtain ⟨h1, h2, h3, h4⟩ := strF hE E hin
  refine k_aload_n E hl 0 dJ0_charAt_5068e_0 rfl ?_
  refine k_callO (As := []) (rest := []) (c_latin l k hE v hin) E vl_J0_492 h1 dJ0_charAt_5068e_1 rfl hW hA hl rfl ⟨by decide, by decide⟩ ⟨by decide, by decide⟩ (Nat.le_of_ble_eq_true rfl) (fun r H locs hp hW => ?_)
  subst hp
  refine lv_if_eq (tgt := 16) E.hx E.hb dJ0_charAt_5068e_4 (by decide) (fun hc => absurd hc (by decide)) (fun hc => ?_)
  refine k_aload_n E hl 0 dJ0_charAt_5068e_7 rfl ?_
  refine vk_getf E.hx E.hb h3 hW.2.2 E.ho (E.w tm_1110 rfl) (fun _ h => h) dJ0_charAt_5068e_8 ?_
  refine k_iload_n E hl 1 dJ0_charAt_5068e_11 rfl ?_
  refine k_callS0 (As := [.ref (k.2.1.2 (60 + v.toNatClampNeg)), .int i]) (rest := []) (c_l1at l k hE v i hin hi) E sl_J0_495 dJ0_charAt_5068e_12 rfl hW hA hl rfl ⟨by decide, by decide⟩ ⟨by decide, by decide⟩ (Nat.le_of_ble_eq_true rfl) (fun r H locs hp hW => ?_)
  subst hp
  exact hret _ () _ _ _ _ _ _ hW rfl (sc_nar _) (by decide) (by decide) dJ0_charAt_5068e_15
/-! a method that answers a word -/
abbrev Qw {S : Type} (k : KT) (W1 : S → va_W) (post : Nat → S → Prop) : (Nat → Prop) → Array Value → State → Outcome → State → Prop := fun A => va_Qq (fun (r : Option Nat) (u : S) => ∃ a, r = some a ∧ post a u) (fun u t => Bpost k A (W1 u) t) A
theorem CG.ofW {l : Launch} {k : KT} {y : MethodName} {cc : ByteArray} {mx fr mc ms loc : Nat} {n : String} {av : List Value} {W0 : va_W} {S : Type} {W1 : S → va_W} {post : Nat → S → Prop} (hy : plainName y.cls = true) (hlen : (lg_sl av).length ≤ mx)
    (body : ∀ (p : Program) (e : Env) (s : State) (m : MethodId) (args : Array Value) (below : List Frame) (meth : Method) (c : Code) (A : Nat → Prop) (Q : State → Prop), E0 p s m c cc mx y.cls k A → meth.name = y.name → WD k A s.heap W0 s.heap [] → (∀ q : Nat, s.heap.size ≤ q → A q) →
      (∀ (v : Nat) (u : S) (H : Heap) (locs : List Loc) (cells slots pc : Nat) (ls : Array Slot), WD k A s.heap (W1 u) H locs → post v u → cells ≤ mc → slots ≤ ms → decode cc pc = .ok (.areturn, 1) → W p l e { frames := fr, cells := mc, slots := ms, locals := loc } s m args below meth c H locs cells slots Q (F0 m pc ls [.ref v])) →
      ∀ ls : Array Slot, lv_has ls mx (lv_args 0 av) → W p l e { frames := fr, cells := mc, slots := ms, locals := loc } s m args below meth c s.heap [] 0 0 Q (F0 m 0 ls [])) : CG l k y cc mx (some (.object n)) fr mc ms loc av W0 (Qw k W1 post) :=
  CG.of hy hlen (fun p e s m args below meth c A E hr hlk hnm hW hA ls hl => body p e s m args below meth c A _ E hnm hW hA (fun v u H locs cells slots pc ls hW hp h1 h2 hdg =>
    W.widen h1 h2 (W.aret E.hx E.hb hr (Or.inl ⟨_, rfl⟩) (Or.inr ⟨v, rfl⟩) (fun t ht hw => ⟨⟨some v, u, rfl, ⟨v, rfl, hp⟩, by rw [ht]; exact hW.1, hW.2.1⟩, hW.2.2.F ht⟩) hW.2.2.2.2 hdg hlk)) ls hl)
theorem k_callSw {p : Program} {l : Launch} {e : Env} {R : Room} {s : State} {m : MethodId} {args : Array Value} {below : List Frame} {meth : Method} {c : Code} {H : Heap} {locs : List Loc} {cells slots : Nat} {Q : State → Prop} {cc : ByteArray} {pc nL : Nat} {ls : Array Slot} {rest : List Value} {k : KT} {A : Nat → Prop} {ws : va_W} {own : String}
    {index mx n fr mc ms loc : Nat} {y : MethodName} {bytes : ByteArray} {ret : Option FieldType} {S : Type} {W0 : va_W} {W1 : S → va_W} {post : Nat → S → Prop} {As : List Value} {lv : List (Nat × Value)} {st0 : List Value}
    (hM : CG l k y bytes mx ret fr mc ms loc As W0 (Qw k W1 post)) (E : E0 p s m c cc nL own k A) (hV : SL own index y bytes mx ret n) (hdg : decode cc pc = .ok (.invokestatic index, 3)) (hst : st0 = As.reverse ++ rest) (isC : List Nat)
    (hW : WD k A s.heap ws H locs) (hA : ∀ q : Nat, s.heap.size ≤ q → A q) (hl : lv_has ls nL lv) (hn : As.length = n) (hC : isC.map (fun i => ws[i]?) = W0.map some) (hR : fr + 1 ≤ R.frames ∧ 8 + (mx + 11) + loc ≤ R.locals) (hroom : cells + mc ≤ R.cells ∧ slots + ms ≤ R.slots) (hcat : (rest.map fun v => v.category).sum ≤ 8) (hnd : va_nd isC = true) (hf : ∀ u, (W1 u).map Prod.fst = W0.map Prod.fst) {ws2 : S → va_W} (hws : ∀ u, putW ws isC (W1 u) = ws2 u)
    (q : ∀ (r : Nat) (u : S) (H1 : Heap) (locs1 : List Loc), post r u → WD k A s.heap (ws2 u) H1 locs1 → W p l e R s m args below meth c H1 locs1 (cells + mc) (slots + ms) Q (F0 m (pc + 3) ls (.ref r :: rest))) : W p l e R s m args below meth c H locs cells slots Q (F0 m pc ls st0) := by
  subst hst
  obtain ⟨hfree, hpre⟩ := pre_call E rfl hW hA isC hC hnd
  refine va_callq (va_runS (As := As) (rest := rest) E.fix (hM H.size) (hV.cw E hR) ⟨Bpre.blind, fun U hU hw => ⟨rfl, hpre U hU hw⟩⟩ rfl hn hl.1 rfl (lv_room hcat) hdg hroom) hW.2.2 (fun q _ h => hfree q h) hfree (fun r u t H1 locs1 ht hvm hp hB hz hk hS => ?_)
  obtain ⟨a, rfl, hp⟩ := hp
  obtain ⟨hP1, hD1⟩ := hB
  rw [ht] at hP1
  obtain ⟨g1, g2⟩ := call_frame hW.1 hW.2.1 isC hC (hf u) hk hP1
  rw [hws] at g1 g2
  exact q a u H1 locs1 hp ⟨g1, g2, hS⟩
