theorem tm_133 : (Jvm.Cond.classLink "MemoryCourtLaw" (8 : Nat) "MemoryCourt") ∈ lw_tbl := List.mem_of_getElem? (i := 133) (by decide +kernel)
theorem tm_134 : (Jvm.Cond.instantiable "MemoryCourt" (9 : Nat)) ∈ lw_tbl := List.mem_of_getElem? (i := 134) (by decide +kernel)
theorem tm_1296 : (Jvm.Cond.classLink "MemoryCourtLaw" (113 : Nat) "MemoryCourtModel") ∈ lw_tbl := List.mem_of_getElem? (i := 1296) (by decide +kernel)
theorem tm_1297 : (Jvm.Cond.instantiable "MemoryCourtModel" (41 : Nat)) ∈ lw_tbl := List.mem_of_getElem? (i := 1297) (by decide +kernel)
theorem tm_135 : (Jvm.Cond.methodLink "MemoryCourtLaw" (112 : Nat) ({ cls := "MemoryCourt", name := "<init>", desc := "()V" } : Jvm.MethodName)) ∈ lw_tbl := List.mem_of_getElem? (i := 135) (by decide +kernel)
theorem tm_136 : (Jvm.Cond.instanceMethod ({ cls := "MemoryCourt", name := "<init>", desc := "()V" } : Jvm.MethodName)) ∈ lw_tbl := List.mem_of_getElem? (i := 136) (by decide +kernel)
theorem tm_137 : (Jvm.Cond.code ({ cls := "MemoryCourt", name := "<init>", desc := "()V" } : Jvm.MethodName) prog_1_method_1_code (1 : Nat) (Option.none : Option Jvm.ClassFile.FieldType)) ∈ lw_tbl := List.mem_of_getElem? (i := 137) (by decide +kernel)
theorem tm_1298 : (Jvm.Cond.methodLink "MemoryCourtLaw" (115 : Nat) ({ cls := "MemoryCourtModel", name := "<init>", desc := "()V" } : Jvm.MethodName)) ∈ lw_tbl := List.mem_of_getElem? (i := 1298) (by decide +kernel)
theorem tm_1299 : (Jvm.Cond.instanceMethod ({ cls := "MemoryCourtModel", name := "<init>", desc := "()V" } : Jvm.MethodName)) ∈ lw_tbl := List.mem_of_getElem? (i := 1299) (by decide +kernel)
theorem tm_1300 : (Jvm.Cond.code ({ cls := "MemoryCourtModel", name := "<init>", desc := "()V" } : Jvm.MethodName) prog_11_method_1_code (1 : Nat) (Option.none : Option Jvm.ClassFile.FieldType)) ∈ lw_tbl := List.mem_of_getElem? (i := 1300) (by decide +kernel)
theorem nw_L_8 {p : Program} {l : Launch} {e : Env} {R : Room} {s : State} {m : MethodId} {args : Array Value} {below : List Frame} {meth : Method} {c : Code} {H : Heap} {locs : List Loc} {cells slots : Nat} {Q : State → Prop} {cc : ByteArray} {pc nL : Nat} {ls : Array Slot} {rest : List Value} {k : KT} {A : Nat → Prop} {ws : va_W} (E : E0 p s m c cc nL RL k A) (hW : WD k A s.heap ws H locs) (hA : ∀ q : Nat, s.heap.size ≤ q → A q) (hc : cells + 1 ≤ R.cells) (hs : slots + 9 ≤ R.slots) (hdg : decode cc pc = .ok (.new 8, 3)) (q : ∀ (x : Nat) (H1 : Heap), WD k A s.heap (ws ++ [(x, .inr (6, [.null, .null, .null, .null, .null, .null, .null, .null, .int 0]))]) H1 locs → W p l e R s m args below meth c H1 locs (cells + 1) (slots + 9) Q (F0 m (pc + 3) ls (.ref x :: rest))) : W p l e R s m args below meth c H locs cells slots Q (F0 m pc ls rest) :=
  va_new (ci := 6) (fs := [.null, .null, .null, .null, .null, .null, .null, .null, .int 0]) (C := RX8) (T := TX8) (N := 9) (Ts := wsX80) E.hx E.hb (fun w hw => E.w (inX8 w hw) (tbl_laysX8 w hw)) (fun _ h => h) tyX8 tyX8_ok E.ho (E.w tm_133 rfl) (E.w tm_134 rfl) (E.w tm_108 rfl) E.hK hW.1 hW.2.1 hW.2.2 hA rfl (fun j hj => match j, hj with | 0, _ => rfl | 1, _ => rfl | 2, _ => rfl | 3, _ => rfl | 4, _ => rfl | 5, _ => rfl | 6, _ => rfl | 7, _ => rfl | 8, _ => rfl | j + 9, h => absurd h (by omega)) hc hs hdg (fun x H1 h1 h2 h3 => q x H1 ⟨h1, h2, h3⟩)
theorem nw_L_113 {p : Program} {l : Launch} {e : Env} {R : Room} {s : State} {m : MethodId} {args : Array Value} {below : List Frame} {meth : Method} {c : Code} {H : Heap} {locs : List Loc} {cells slots : Nat} {Q : State → Prop} {cc : ByteArray} {pc nL : Nat} {ls : Array Slot} {rest : List Value} {k : KT} {A : Nat → Prop} {ws : va_W} (E : E0 p s m c cc nL RL k A) (hW : WD k A s.heap ws H locs) (hA : ∀ q : Nat, s.heap.size ≤ q → A q) (hc : cells + 1 ≤ R.cells) (hs : slots + 41 ≤ R.slots) (hdg : decode cc pc = .ok (.new 113, 3)) (q : ∀ (x : Nat) (H1 : Heap), WD k A s.heap (ws ++ [(x, .inr (7, [.int 0, .int 0, .int 0, .int 0, .int 0, .int 0, .int 0, .int 0, .null, .null, .null, .null, .null, .null, .null, .int 0, .int 0, .int 0, .int 0, .int 0, .int 0, .null, .null, .int 0, .int 0, .int 0, .int 0, .int 0, .int 0, .int 0, .long 0, .int 0, .int 0, .int 0, .int 0, .int 0, .int 0, .null, .null, .null, .int 0]))]) H1 locs → W p l e R s m args below meth c H1 locs (cells + 1) (slots + 41) Q (F0 m (pc + 3) ls (.ref x :: rest))) : W p l e R s m args below meth c H locs cells slots Q (F0 m pc ls rest) :=
  va_new (ci := 7) (fs := [.int 0, .int 0, .int 0, .int 0, .int 0, .int 0, .int 0, .int 0, .null, .null, .null, .null, .null, .null, .null, .int 0, .int 0, .int 0, .int 0, .int 0, .int 0, .null, .null, .int 0, .int 0, .int 0, .int 0, .int 0, .int 0, .int 0, .long 0, .int 0, .int 0, .int 0, .int 0, .int 0, .int 0, .null, .null, .null, .int 0]) (C := RX9) (T := TX9) (N := 41) (Ts := wsX90) E.hx E.hb (fun w hw => E.w (inX9 w hw) (tbl_laysX9 w hw)) (fun _ h => h) tyX9 tyX9_ok E.ho (E.w tm_1296 rfl) (E.w tm_1297 rfl) (E.w tm_119 rfl) E.hK hW.1 hW.2.1 hW.2.2 hA rfl (fun j hj => match j, hj with | 0, _ => rfl | 1, _ => rfl | 2, _ => rfl | 3, _ => rfl | 4, _ => rfl | 5, _ => rfl | 6, _ => rfl | 7, _ => rfl | 8, _ => rfl | 9, _ => rfl | 10, _ => rfl | 11, _ => rfl | 12, _ => rfl | 13, _ => rfl | 14, _ => rfl | 15, _ => rfl | 16, _ => rfl | 17, _ => rfl | 18, _ => rfl | 19, _ => rfl | 20, _ => rfl | 21, _ => rfl | 22, _ => rfl | 23, _ => rfl | 24, _ => rfl | 25, _ => rfl | 26, _ => rfl | 27, _ => rfl | 28, _ => rfl | 29, _ => rfl | 30, _ => rfl | 31, _ => rfl | 32, _ => rfl | 33, _ => rfl | 34, _ => rfl | 35, _ => rfl | 36, _ => rfl | 37, _ => rfl | 38, _ => rfl | 39, _ => rfl | 40, _ => rfl | j + 41, h => absurd h (by omega)) hc hs hdg (fun x H1 h1 h2 h3 => q x H1 ⟨h1, h2, h3⟩)
theorem il_L_112 : IL RL 112 yX8_init cX8_init 1 0 := ⟨⟨tm_135, tm_136, tm_108, tm_137⟩, by decide +kernel⟩
theorem il_L_115 : IL RL 115 yX9_init cX9_init 1 0 := ⟨⟨tm_1298, tm_1299, tm_119, tm_1300⟩, by decide +kernel⟩
/-! the walk from the entry to the loop's head, and the law's end -/
set_option maxHeartbeats 4000000 in
set_option maxRecDepth 100000 in
theorem whole_go {p : Program} {e : Env} {s : State} {m : MethodId} {below : List Frame} {meth : Method} {c : Code} (l : Launch) (hflags : l.stackTraces = false) {b L : Nat} {xs : Nat → Int32} (hL : L ≤ 3072) (C0 : lw_At p s m meth c b L xs) (n : Nat) (i8 : OS × OS) (i9 : OS) (h8 : f_X8_init n = some i8) (h9 : f_X9_init n = some i9) (N : Nat) (hg : Lgood n L xs N (nI (6 * 0)) (zOS, zOS, zOS, i8.1, i8.2, zOS, zRd, zOS, zPS, i9, (fun _ => 0), none)) : W p l e room_1 s m #[Value.ref b] below meth c s.heap [] 0 0 (lw_Z below #[Value.ref b] s) (entryFrame m ([Value.ref b] : List Value).toArray 9) := by
  obtain ⟨hx, hb, hr, hml, hown, hts, hX, hbl, hlocks, hgv⟩ := id C0
  have hA : ∀ q : Nat, s.heap.size ≤ q → (fun q : Nat => s.heap.size ≤ q) q := fun _ h => h
  have hbA : ¬ (fun q : Nat => s.heap.size ≤ q) b := Nat.not_le.mpr hbl
  have hA2 : ∀ a : Nat, a < s.heap.size → ¬ (fun q : Nat => s.heap.size ≤ q) a := fun a h => Nat.not_le.mpr h
  obtain ⟨D, hKc⟩ := ex_cls hts
  obtain ⟨T, hKt⟩ := ex_arr hts
  obtain ⟨ad, hEs⟩ := ex_esf hts hgv hA2
  have hXs := ex_xsf hts hgv hA2
  have hAO : va_AO "MemoryCourt$Court" s := va_AO.of (hts (.arrayOver (.object "MemoryCourt$Court")) (by decide +kernel))
  have hE := k_EH D T ad
  have hxh := k_XH hflags D T ad
  have hN := k_CCH D T ad
  have hO := k_AOH D T ad
  have E : E0 p s m c cL_law 9 RL (D, (T, ad), SFc ad) (fun q : Nat => s.heap.size ≤ q) := ⟨hx, hb, hml, hown, TB.of hts, ⟨hKc, hKt⟩, kok D T ad, ⟨hXs, hEs, hAO, ex_ccp hts hgv⟩⟩
  generalize ((D, (T, ad), SFc ad) : KT) = k at hE hxh hN hO E
  have hl := lv_entry ([.ref b]) (n := 9) (Nat.le_of_ble_eq_true rfl)
  rw [lg_entry_eq]
  generalize (lg_sl ([.ref b]) ++ List.replicate (9 - (lg_sl ([.ref b])).length) Slot.unset).toArray = ls at hl ⊢
  have hl : lv_has ls 9 [(0, .ref b)] := hl
  have hW : WD k (fun q : Nat => s.heap.size ≤ q) s.heap [] s.heap [] := ⟨fun i q h => by simp at h, ⟨fun i j p q h => by simp at h, fun i q h => by simp at h⟩, va_S.rf⟩
  refine nw_L_8 E hW hA (Nat.le_of_ble_eq_true rfl) (Nat.le_of_ble_eq_true rfl) dL_law_0 (fun q1 H hW => ?_)
  refine lv_dup E.hx E.hb dL_law_3 rfl ?_
  refine k_callNew (As := []) (rest := [.ref q1]) (c_X8_init n l k hE hO q1 i8 h8) E il_L_112 dL_law_4 rfl hW hA hl rfl ⟨Nat.le_of_ble_eq_true rfl, Nat.le_of_ble_eq_true rfl⟩ ⟨Nat.le_of_ble_eq_true rfl, Nat.le_of_ble_eq_true rfl⟩ (Nat.le_of_ble_eq_true rfl) (fun u H locs _ hW => ?_)
  refine lv_astore_n (lv' := [(1, .ref q1), (0, .ref b)]) E.hx E.hb dL_law_7 rfl hl (by decide) rfl (fun ls hl => ?_)
  refine nw_L_113 E hW hA (Nat.le_of_ble_eq_true rfl) (Nat.le_of_ble_eq_true rfl) dL_law_8 (fun q2 H hW => ?_)
  refine lv_dup E.hx E.hb dL_law_11 rfl ?_
  refine k_callNew (As := []) (rest := [.ref q2]) (c_X9_init n l k q2 i9 h9) E il_L_115 dL_law_12 rfl hW hA hl rfl ⟨Nat.le_of_ble_eq_true rfl, Nat.le_of_ble_eq_true rfl⟩ ⟨Nat.le_of_ble_eq_true rfl, Nat.le_of_ble_eq_true rfl⟩ (Nat.le_of_ble_eq_true rfl) (fun u9 H locs _ hW => ?_)
  refine lv_astore_n (lv' := [(2, .ref q2), (1, .ref q1), (0, .ref b)]) E.hx E.hb dL_law_15 rfl hl (by decide) rfl (fun ls hl => ?_)
  refine lv_iconst (v := (1 : Int32)) E.hx E.hb dL_law_16 ic_1 ?_
  refine k_newJ (N := 1) E hW hA (by decide) (by decide) (by decide) (Nat.le_of_ble_eq_true rfl) (Nat.le_of_ble_eq_true rfl) dL_law_17 (fun q3 H hW => ?_)
  refine lv_astore_n (lv' := [(3, .ref q3), (2, .ref q2), (1, .ref q1), (0, .ref b)]) E.hx E.hb dL_law_19 rfl hl (by decide) rfl (fun ls hl => ?_)
  refine lv_iconst (v := (0 : Int32)) E.hx E.hb dL_law_20 ic_0 ?_
  refine k_istore (lv' := [(4, .int (0 : Int32)), (3, .ref q3), (2, .ref q2), (1, .ref q1), (0, .ref b)]) E rfl hl dL_law_21 (by decide) rfl (fun ls hl => ?_)
  refine W.widen (k := 100) (n := 60000) (Nat.le_of_ble_eq_true rfl) (Nat.le_of_ble_eq_true rfl) ?_
  have hW : WD k (fun q : Nat => s.heap.size ≤ q) s.heap (LW k (fun _ => q1) (u 0) (u 1) (u 2) (u 3) (u 4) (u 5) (u 6) (u 7) (adr q2 u9) (fun _ => q3) (fun _ _ => 0) (fun _ => 0) (zOS, zOS, zOS, i8.1, i8.2, zOS, zRd, zOS, zPS, i9, (fun _ => 0), none)) H locs := hW
  exact c_law_loop n hL hE hxh hN E hX hbl hbA hA (fun _ => q1) (u 0) (u 1) (u 2) (u 3) (u 4) (u 5) (u 6) (u 7) (adr q2 u9) (fun _ => q3)
    (fun H locs ls cells slots hc hs hS => va_forget hS.2.2 (W.widen (k := 601024) (n := 7293034) hc hs (lv_iconst (v := (1 : Int32)) E.hx E.hb dL_law_2480 ic_1 (lw_ret (d0 := s.drawn) (Drawn.sameBut.refl s.drawn lw_cs) hx hb hr hlocks dL_law_2481))))
    N 0 _ (fun _ _ => 0) (fun _ => 0) H locs ls 100 60000 hg (by omega) (by omega) (by omega) hW (lv_sub hl [4, 3, 2, 1, 0] rfl)
