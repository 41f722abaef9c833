theorem tm_62 : (Jvm.Cond.classLink "MemoryCourtLaw" (26 : Nat) "MemoryCourt") ∈ lw_tbl := List.mem_of_getElem? (i := 62) (by decide +kernel)
theorem tm_64 : (Jvm.Cond.methodLink "MemoryCourtLaw" (132 : Nat) ({ cls := "MemoryCourt", name := "<init>", desc := "()V" } : Jvm.MethodName)) ∈ lw_tbl := List.mem_of_getElem? (i := 64) (by decide +kernel)
theorem tm_65 : (Jvm.Cond.instanceMethod ({ cls := "MemoryCourt", name := "<init>", desc := "()V" } : Jvm.MethodName)) ∈ lw_tbl := List.mem_of_getElem? (i := 65) (by decide +kernel)
theorem tm_66 : (Jvm.Cond.code ({ cls := "MemoryCourt", name := "<init>", desc := "()V" } : Jvm.MethodName) prog_1_method_1_code (1 : Nat) (Option.none : Option Jvm.ClassFile.FieldType)) ∈ lw_tbl := List.mem_of_getElem? (i := 66) (by decide +kernel)
theorem tm_881 : (Jvm.Cond.methodLink "MemoryCourtLaw" (133 : Nat) ({ cls := "MemoryCourtLaw", name := "setup", desc := "([III)Ljava/lang/String;" } : Jvm.MethodName)) ∈ lw_tbl := List.mem_of_getElem? (i := 881) (by decide +kernel)
theorem tm_882 : (Jvm.Cond.static ({ cls := "MemoryCourtLaw", name := "setup", desc := "([III)Ljava/lang/String;" } : Jvm.MethodName)) ∈ lw_tbl := List.mem_of_getElem? (i := 882) (by decide +kernel)
theorem tm_883 : (Jvm.Cond.code ({ cls := "MemoryCourtLaw", name := "setup", desc := "([III)Ljava/lang/String;" } : Jvm.MethodName) method_6_code (5 : Nat) (Option.some (Jvm.ClassFile.FieldType.object "java/lang/String"))) ∈ lw_tbl := List.mem_of_getElem? (i := 883) (by decide +kernel)
theorem tm_688 : (Jvm.Cond.methodLink "MemoryCourtLaw" (137 : Nat) ({ cls := "MemoryCourtLaw", name := "parsed", desc := "(LMemoryCourt;Ljava/lang/String;)I" } : Jvm.MethodName)) ∈ lw_tbl := List.mem_of_getElem? (i := 688) (by decide +kernel)
theorem tm_689 : (Jvm.Cond.static ({ cls := "MemoryCourtLaw", name := "parsed", desc := "(LMemoryCourt;Ljava/lang/String;)I" } : Jvm.MethodName)) ∈ lw_tbl := List.mem_of_getElem? (i := 689) (by decide +kernel)
theorem tm_690 : (Jvm.Cond.code ({ cls := "MemoryCourtLaw", name := "parsed", desc := "(LMemoryCourt;Ljava/lang/String;)I" } : Jvm.MethodName) method_5_code (2 : Nat) (Option.some Jvm.ClassFile.FieldType.int)) ∈ lw_tbl := List.mem_of_getElem? (i := 690) (by decide +kernel)
theorem bp_22 : (Int8.ofInt (22)).toInt32 = (22 : Int32) := by decide
theorem nw_L_26 {p : Program} {l : Launch} {e : Env} {R : Room} {s : State} {m : MethodId} {args : Array Value} {below : List Frame} {meth : Method} {c : Code} {H : Heap} {locs : List Loc} {cells slots : Nat} {Q : State → Prop} {cc : ByteArray} {pc nL : Nat} {ls : Array Slot} {rest : List Value} {k : KT} {A : Nat → Prop} {ws : va_W} (E : E0 p s m c cc nL RL k A) (hW : WD k A s.heap ws H locs) (hA : ∀ q : Nat, s.heap.size ≤ q → A q) (hc : cells + 1 ≤ R.cells) (hs : slots + 9 ≤ R.slots) (hdg : decode cc pc = .ok (.new 26, 3)) (q : ∀ (x : Nat) (H1 : Heap), WD k A s.heap (ws ++ [(x, .inr (8, [.null, .null, .null, .null, .null, .null, .null, .null, .int 0]))]) H1 locs → W p l e R s m args below meth c H1 locs (cells + 1) (slots + 9) Q (F0 m (pc + 3) ls (.ref x :: rest))) : W p l e R s m args below meth c H locs cells slots Q (F0 m pc ls rest) :=
  va_new (ci := 8) (fs := [.null, .null, .null, .null, .null, .null, .null, .null, .int 0]) (C := RX8) (T := TX8) (N := 9) (Ts := wsX80) E.hx E.hb (fun w hw => E.w (inX8 w hw) (tbl_laysX8 w hw)) (fun _ h => h) tyX8 tyX8_ok E.ho (E.w tm_62 rfl) (E.w tm_63 rfl) (E.w tm_33 rfl) E.hK hW.1 hW.2.1 hW.2.2 hA rfl (fun j hj => match j, hj with | 0, _ => rfl | 1, _ => rfl | 2, _ => rfl | 3, _ => rfl | 4, _ => rfl | 5, _ => rfl | 6, _ => rfl | 7, _ => rfl | 8, _ => rfl | j + 9, h => absurd h (by omega)) hc hs hdg (fun x H1 h1 h2 h3 => q x H1 ⟨h1, h2, h3⟩)
theorem il_L_132 : IL RL 132 yX8_init cX8_init 1 0 := ⟨⟨tm_64, tm_65, tm_33, tm_66⟩, by decide +kernel⟩
theorem sl_L_133 : SL RL 133 yL_setup cL_setup 5 (some (.object "java/lang/String")) 3 := ⟨⟨tm_881, tm_882, tm_32, tm_883⟩, by decide +kernel⟩
theorem sl_L_137 : SL RL 137 yL_parsed cL_parsed 2 (some .int) 2 := ⟨⟨tm_688, tm_689, tm_32, tm_690⟩, by decide +kernel⟩
/-- the law behind its acts comes to its end, and finds all as it should be -/
def Tail50 (n L : Nat) (xs : Nat → Int32) (th ru fo : OS) (P q : Int32) (y : OS × PS) : Prop :=
  ∃ res, f_L_law n L xs .null th ru y.1 fo y.2 P q = some res ∧ ∃ th1 c1 tm, f_X8_saveState n th res.1 none = some (th1, c1, tm) ∧ ∃ no2 pa2 r2, (∀ sv, f_X8_run n sv th1 ru res.1 res.2.2 (3 : Int32) = some (no2, pa2, r2, 0)) ∧ ¬ r2 < 0 ∧ ∃ no3 pa3, f_X8_restoreState n th1 no2 pa2 (some c1) = some (no3, pa3, tm, 0) ∧ (∀ sv, f_X8_count n sv th1 ru no3 pa3 (20 : Int32) = some 0) ∧ ∃ no4 r5, (∀ sv, f_L_isSound n sv th1 ru no3 pa3 P q = some (no4, r5)) ∧ ¬ r5 = 0
set_option maxHeartbeats 8000000 in
set_option maxRecDepth 100000 in
theorem p50_go {p : Program} {e : Env} {s : State} {m : MethodId} {below : List Frame} {meth : Method} {c : Code} (l : Launch) {b L : Nat} {xs : Nat → Int32} (hL : L ≤ 260) (C0 : lw_At p s m meth c b L xs) (n : Nat) (i8 : OS × OS) (h8 : f_X8_init n = some i8) (P q e0 e1 e2 e3 e4 many : Nat) (o : Int32) (hP : P ≤ 100) (hq : q ≤ 8) (he0 : e0 ≤ 100) (he1 : e1 ≤ 100) (he2 : e2 ≤ 100) (he3 : e3 ≤ 100) (he4 : e4 ≤ 100) (hmany : many ≤ 22)
    (hdP : f_L_draw n L xs (6 : Int32) (4 : Int32) (64 : Int32) = some (nI P)) (hdq : f_L_draw n L xs (7 : Int32) (1 : Int32) (8 : Int32) = some (nI q)) (hdm : f_L_draw n L xs (8 : Int32) (3 : Int32) (22 : Int32) = some (nI many)) (hd0 : f_L_draw n L xs (0 : Int32) (1 : Int32) (9 : Int32) = some (nI e0)) (hd1 : f_L_draw n L xs (1 : Int32) (1 : Int32) (100 : Int32) = some (nI e1)) (hd2 : f_L_draw n L xs (2 : Int32) (1 : Int32) (60 : Int32) = some (nI e2)) (hd3 : f_L_draw n L xs (3 : Int32) (1 : Int32) (9 : Int32) = some (nI e3)) (hd4 : f_L_draw n L xs (4 : Int32) (0 : Int32) (99 : Int32) = some (nI e4)) (hd5 : f_L_draw n L xs (5 : Int32) (0 : Int32) (2 : Int32) = some o)
    (in1 : OS) (r1 : Int32) (hF : ∀ g, g ≤ ((setupL P q e0 e1 e2 e3 e4 o).length + 19) / 20 → ∃ y, feedF n .null zOS (tx (setupL P q e0 e1 e2 e3 e4 o)) (setupL P q e0 e1 e2 e3 e4 o).length zOS g = some y) (hT : ∀ y, feedF n .null zOS (tx (setupL P q e0 e1 e2 e3 e4 o)) (setupL P q e0 e1 e2 e3 e4 o).length zOS (((setupL P q e0 e1 e2 e3 e4 o).length + 19) / 20) = some y → f_X8_truncate n .null zOS 600 y (nI (setupL P q e0 e1 e2 e3 e4 o).length) = some (in1, r1))
    (th in2 ru no fo rd9 rr9 : OS) (pa : PS) (hpr : f_X8_parse n .null zOS 600 in1 i8.1 i8.2 zOS zRd zOS zPS = some (th, in2, ru, no, fo, rd9, rr9, pa, nI q)) (hpa : pa.2.1 = 0)
    (hF9 : ∀ i, i ≤ many → ∃ y, actsF n L xs .null th ru (nI P) (nI q) (no, pa) i = some y)
    (hend : ∀ y, actsF n L xs .null th ru (nI P) (nI q) (no, pa) many = some y → Tail50 n L xs th ru fo (nI P) (nI q) y) : W p l e room_1 s m #[Value.ref b] below meth c s.heap [] 0 0 (lw_Z below #[Value.ref b] s) (entryFrame m ([Value.ref b] : List Value).toArray 21) := by
  obtain ⟨hx, hb, hr, hml, hown, hts, hX, hbl, hlocks, hgv⟩ := id C0
  have hA : ∀ q : Nat, s.heap.size ≤ q → (fun q : Nat => s.heap.size ≤ q) q := fun _ h => h
  have hbA : ¬ (fun q : Nat => s.heap.size ≤ q) b := Nat.not_le.mpr hbl
  have hA2 : ∀ a : Nat, a < s.heap.size → ¬ (fun q : Nat => s.heap.size ≤ q) a := fun a h => Nat.not_le.mpr h
  obtain ⟨D, hKc⟩ := ex_cls hts
  obtain ⟨T, hKt⟩ := ex_arr hts
  obtain ⟨ad, hEs⟩ := ex_esf hts hgv hA2
  have hAO : va_AO "MemoryCourt$Court" s := va_AO.of (hts (.arrayOver (.object "MemoryCourt$Court")) tm_275)
  have hE := k_EH D T ad b L xs
  have hG := k_DGH D T ad b L xs
  have hO := k_AOH D T ad b L xs
  have hSX := k_SXH D T ad b L xs hL
  have E : E0 p s m c cL_law 21 RL (D, (T, ad), SFc ad b L xs) (fun q : Nat => s.heap.size ≤ q) := ⟨hx, hb, hml, hown, TB.of hts, ⟨hKc, hKt⟩, kok D T ad b L xs, ⟨hEs, hAO, ex_priv hts, ex_dig hts hgv hA2, hX, hbl, hbA⟩⟩
  generalize ((D, (T, ad), SFc ad b L xs) : KT) = k at hE hG hO hSX E
  have hn9 : (setupL P q e0 e1 e2 e3 e4 o).length ≤ 240 := by
    show (bodyL P q e0 e1 e2 e3 e4 ++ sLst (ordX o)).length ≤ 240
    rw [List.length_append, (ordX_in o).2]
    have := bodyL_len (P := P) (q := q) (e0 := e0) (e1 := e1) (e2 := e2) (e3 := e3) (e4 := e4) hq
    omega
  have hl := lv_entry ([.ref b]) (n := 21) (Nat.le_of_ble_eq_true rfl)
  rw [lg_entry_eq]
  generalize (lg_sl ([.ref b]) ++ List.replicate (21 - (lg_sl ([.ref b])).length) Slot.unset).toArray = ls at hl ⊢
  have hl : lv_has ls 21 [(0, .ref b)] := hl
  have hW : WD k (fun q : Nat => s.heap.size ≤ q) s.heap [] s.heap [] := ⟨fun i q h => by simp at h, ⟨fun i j p q h => by simp at h, fun i q h => by simp at h⟩, va_S.rf⟩
  refine nw_L_26 E hW hA (Nat.le_of_ble_eq_true rfl) (Nat.le_of_ble_eq_true rfl) dL_law_0 (fun q1 H hW => ?_)
  refine lv_dup E.hx E.hb dL_law_3 rfl ?_
  refine k_callNew (As := []) (rest := [.ref q1]) (c_X8_init n l k hE hO q1 i8 h8) E il_L_132 dL_law_4 rfl hW hA hl rfl ⟨Nat.le_of_ble_eq_true rfl, Nat.le_of_ble_eq_true rfl⟩ ⟨Nat.le_of_ble_eq_true rfl, Nat.le_of_ble_eq_true rfl⟩ (Nat.le_of_ble_eq_true rfl) (fun u H locs _ hW => ?_)
  obtain ⟨a1, ea1⟩ : ∃ a1 : Nat → Nat, a1 = fun _ => q1 := ⟨_, rfl⟩
  have ea0 : q1 = a1 0 := by rw [ea1]
  rw [← ea1] at hW
  have hW : WD k (fun q : Nat => s.heap.size ≤ q) s.heap (((wMCo k a1 (u 0 0) (u 1 0) (u 2 0) (u 3 0) (u 4 0) (u 5 0) (u 7 0) .null zOS ++ wBytes k (u 0) 600 zOS) ++ wBytes k (u 1) 1024 zOS) ++ (wRules k (u 2) i8.1 ++ wCourt k (u 3) i8.2 ++ wCourt k (u 4) zOS ++ wReader k (u 5) (u 0 0) (u 4 0) (u 6 0) zRd ++ wRules k (u 6) zOS ++ wPast k (u 7) (fun _ _ => 0) zPS)) H locs := by
    have hW : WD k (fun q : Nat => s.heap.size ≤ q) s.heap (wMCo k a1 (u 0 0) (u 1 0) (u 2 0) (u 3 0) (u 4 0) (u 5 0) (u 7 0) .null zOS ++ wBytes k (u 0) 600 zOS ++ wBytes k (u 1) 1024 zOS ++ wRules k (u 2) i8.1 ++ wCourt k (u 3) i8.2 ++ wCourt k (u 4) zOS ++ wReader k (u 5) (u 0 0) (u 4 0) (u 6 0) zRd ++ wRules k (u 6) zOS ++ wPast k (u 7) (fun _ _ => 0) zPS) H locs := hW
    simpa only [List.append_assoc] using hW
  have hW : WD k (fun q : Nat => s.heap.size ≤ q) s.heap ((wMCo k a1 (u 0 0) (u 1 0) (u 2 0) (u 3 0) (u 4 0) (u 5 0) (u 7 0) .null zOS ++ wBytes k (u 0) 600 zOS) ++ (wRules k (u 2) i8.1 ++ wCourt k (u 3) i8.2 ++ wCourt k (u 4) zOS ++ wReader k (u 5) (u 0 0) (u 4 0) (u 6 0) zRd ++ wRules k (u 6) zOS ++ wPast k (u 7) (fun _ _ => 0) zPS)) H locs := hW.swap.left
  refine lv_astore_n (lv' := [(1, .ref (a1 0)), (0, .ref b)]) E.hx E.hb dL_law_7 rfl hl (by decide) (by rw [← ea0]; rfl) (fun ls hl => ?_)
  refine k_aload_n E hl 1 dL_law_8 rfl ?_
  refine lv_bipush (v := (6 : Int32)) E.hx E.hb dL_law_9 bp_6 ?_
  refine lv_iconst (v := (4 : Int32)) E.hx E.hb dL_law_11 ic_4 ?_
  refine lv_bipush (v := (64 : Int32)) E.hx E.hb dL_law_12 bp_64 ?_
  have hW : WD k (fun q : Nat => s.heap.size ≤ q) s.heap (((wMCo k a1 (u 0 0) (u 1 0) (u 2 0) (u 3 0) (u 4 0) (u 5 0) (u 7 0) .null zOS ++ wBytes k (u 0) 600 zOS) ++ (wRules k (u 2) i8.1 ++ wCourt k (u 3) i8.2 ++ wCourt k (u 4) zOS ++ wReader k (u 5) (u 0 0) (u 4 0) (u 6 0) zRd ++ wRules k (u 6) zOS ++ wPast k (u 7) (fun _ _ => 0) zPS)) ++ []) H locs := by rw [List.append_nil]; exact hW
  refine k_fini (X := ((wMCo k a1 (u 0 0) (u 1 0) (u 2 0) (u 3 0) (u 4 0) (u 5 0) (u 7 0) .null zOS ++ wBytes k (u 0) 600 zOS) ++ (wRules k (u 2) i8.1 ++ wCourt k (u 3) i8.2 ++ wCourt k (u 4) zOS ++ wReader k (u 5) (u 0 0) (u 4 0) (u 6 0) zRd ++ wRules k (u 6) zOS ++ wPast k (u 7) (fun _ _ => 0) zPS))) (k_rS (X := ((wMCo k a1 (u 0 0) (u 1 0) (u 2 0) (u 3 0) (u 4 0) (u 5 0) (u 7 0) .null zOS ++ wBytes k (u 0) 600 zOS) ++ (wRules k (u 2) i8.1 ++ wCourt k (u 3) i8.2 ++ wCourt k (u 4) zOS ++ wReader k (u 5) (u 0 0) (u 4 0) (u 6 0) zRd ++ wRules k (u 6) zOS ++ wPast k (u 7) (fun _ _ => 0) zPS))) (As := [.ref b, .int (6 : Int32), .int (4 : Int32), .int (64 : Int32)]) (rest := []) (c_L_draw n l k b L xs (6 : Int32) (4 : Int32) (64 : Int32) (nI P) hdP hSX) E sl_L_62 dL_law_14 hW hA hl rfl ⟨by decide, by decide⟩ ⟨Nat.le_of_ble_eq_true rfl, Nat.le_of_ble_eq_true rfl⟩ (Nat.le_of_ble_eq_true rfl)) E hW hA (fun r u8 H locs hp hW => ?_)
  have hp : nI P = r := hp
  subst hp
  have hW : WD k (fun q : Nat => s.heap.size ≤ q) s.heap ((wMCo k a1 (u 0 0) (u 1 0) (u 2 0) (u 3 0) (u 4 0) (u 5 0) (u 7 0) .null zOS ++ wBytes k (u 0) 600 zOS) ++ (wRules k (u 2) i8.1 ++ wCourt k (u 3) i8.2 ++ wCourt k (u 4) zOS ++ wReader k (u 5) (u 0 0) (u 4 0) (u 6 0) zRd ++ wRules k (u 6) zOS ++ wPast k (u 7) (fun _ _ => 0) zPS)) H locs := by rw [List.append_nil] at hW; exact hW
  refine k_istore_n (lv' := [(2, .int (nI P)), (1, .ref (a1 0)), (0, .ref b)]) E rfl hl dL_law_17 rfl (by decide) rfl (fun ls hl => ?_)
  refine k_aload_n E hl 2 dL_law_18 rfl ?_
  refine lv_bipush (v := (7 : Int32)) E.hx E.hb dL_law_19 bp_7 ?_
  refine lv_iconst (v := (1 : Int32)) E.hx E.hb dL_law_21 ic_1 ?_
  refine lv_bipush (v := (8 : Int32)) E.hx E.hb dL_law_22 bp_8 ?_
  have hW : WD k (fun q : Nat => s.heap.size ≤ q) s.heap (((wMCo k a1 (u 0 0) (u 1 0) (u 2 0) (u 3 0) (u 4 0) (u 5 0) (u 7 0) .null zOS ++ wBytes k (u 0) 600 zOS) ++ (wRules k (u 2) i8.1 ++ wCourt k (u 3) i8.2 ++ wCourt k (u 4) zOS ++ wReader k (u 5) (u 0 0) (u 4 0) (u 6 0) zRd ++ wRules k (u 6) zOS ++ wPast k (u 7) (fun _ _ => 0) zPS)) ++ []) H locs := by rw [List.append_nil]; exact hW
  refine k_fini (X := ((wMCo k a1 (u 0 0) (u 1 0) (u 2 0) (u 3 0) (u 4 0) (u 5 0) (u 7 0) .null zOS ++ wBytes k (u 0) 600 zOS) ++ (wRules k (u 2) i8.1 ++ wCourt k (u 3) i8.2 ++ wCourt k (u 4) zOS ++ wReader k (u 5) (u 0 0) (u 4 0) (u 6 0) zRd ++ wRules k (u 6) zOS ++ wPast k (u 7) (fun _ _ => 0) zPS))) (k_rS (X := ((wMCo k a1 (u 0 0) (u 1 0) (u 2 0) (u 3 0) (u 4 0) (u 5 0) (u 7 0) .null zOS ++ wBytes k (u 0) 600 zOS) ++ (wRules k (u 2) i8.1 ++ wCourt k (u 3) i8.2 ++ wCourt k (u 4) zOS ++ wReader k (u 5) (u 0 0) (u 4 0) (u 6 0) zRd ++ wRules k (u 6) zOS ++ wPast k (u 7) (fun _ _ => 0) zPS))) (As := [.ref b, .int (7 : Int32), .int (1 : Int32), .int (8 : Int32)]) (rest := []) (c_L_draw n l k b L xs (7 : Int32) (1 : Int32) (8 : Int32) (nI q) hdq hSX) E sl_L_62 dL_law_24 hW hA hl rfl ⟨by decide, by decide⟩ ⟨Nat.le_of_ble_eq_true rfl, Nat.le_of_ble_eq_true rfl⟩ (Nat.le_of_ble_eq_true rfl)) E hW hA (fun r u8 H locs hp hW => ?_)
  have hp : nI q = r := hp
  subst hp
  have hW : WD k (fun q : Nat => s.heap.size ≤ q) s.heap ((wMCo k a1 (u 0 0) (u 1 0) (u 2 0) (u 3 0) (u 4 0) (u 5 0) (u 7 0) .null zOS ++ wBytes k (u 0) 600 zOS) ++ (wRules k (u 2) i8.1 ++ wCourt k (u 3) i8.2 ++ wCourt k (u 4) zOS ++ wReader k (u 5) (u 0 0) (u 4 0) (u 6 0) zRd ++ wRules k (u 6) zOS ++ wPast k (u 7) (fun _ _ => 0) zPS)) H locs := by rw [List.append_nil] at hW; exact hW
  refine k_istore_n (lv' := [(3, .int (nI q)), (2, .int (nI P)), (1, .ref (a1 0)), (0, .ref b)]) E rfl hl dL_law_27 rfl (by decide) rfl (fun ls hl => ?_)
  refine k_aload_n E hl 2 dL_law_28 rfl ?_
  refine k_aload_n E hl 3 dL_law_29 rfl ?_
  refine k_iload_n E hl 1 dL_law_30 rfl ?_
  refine k_iload_n E hl 0 dL_law_31 rfl ?_
  have hW : WD k (fun q : Nat => s.heap.size ≤ q) s.heap (((wMCo k a1 (u 0 0) (u 1 0) (u 2 0) (u 3 0) (u 4 0) (u 5 0) (u 7 0) .null zOS ++ wBytes k (u 0) 600 zOS) ++ (wRules k (u 2) i8.1 ++ wCourt k (u 3) i8.2 ++ wCourt k (u 4) zOS ++ wReader k (u 5) (u 0 0) (u 4 0) (u 6 0) zRd ++ wRules k (u 6) zOS ++ wPast k (u 7) (fun _ _ => 0) zPS)) ++ []) H locs := by rw [List.append_nil]; exact hW
  refine k_finw (X := ((wMCo k a1 (u 0 0) (u 1 0) (u 2 0) (u 3 0) (u 4 0) (u 5 0) (u 7 0) .null zOS ++ wBytes k (u 0) 600 zOS) ++ (wRules k (u 2) i8.1 ++ wCourt k (u 3) i8.2 ++ wCourt k (u 4) zOS ++ wReader k (u 5) (u 0 0) (u 4 0) (u 6 0) zRd ++ wRules k (u 6) zOS ++ wPast k (u 7) (fun _ _ => 0) zPS))) (k_rS (X := ((wMCo k a1 (u 0 0) (u 1 0) (u 2 0) (u 3 0) (u 4 0) (u 5 0) (u 7 0) .null zOS ++ wBytes k (u 0) 600 zOS) ++ (wRules k (u 2) i8.1 ++ wCourt k (u 3) i8.2 ++ wCourt k (u 4) zOS ++ wReader k (u 5) (u 0 0) (u 4 0) (u 6 0) zRd ++ wRules k (u 6) zOS ++ wPast k (u 7) (fun _ _ => 0) zPS))) (As := [.ref b, .int (nI P), .int (nI q)]) (rest := [.ref (a1 0)]) (c_L_setup l k n hE hG b L xs P q e0 e1 e2 e3 e4 o hP hq he0 he1 he2 he3 he4 hd0 hd1 hd2 hd3 hd4 hd5 hSX) E sl_L_133 dL_law_32 hW hA hl rfl ⟨by decide, by decide⟩ ⟨Nat.le_of_ble_eq_true rfl, Nat.le_of_ble_eq_true rfl⟩ (Nat.le_of_ble_eq_true rfl)) E hW hA (fun r u9 H locs hp hW => ?_)
  obtain ⟨x1, x2, x3⟩ := u9
  obtain ⟨hx1, hS, hfit⟩ := hp
  have hx1 : x1 = r := hx1
  subst hx1
  have hW : WD k (fun q : Nat => s.heap.size ≤ q) s.heap ((wMCo k a1 (u 0 0) (u 1 0) (u 2 0) (u 3 0) (u 4 0) (u 5 0) (u 7 0) .null zOS ++ wBytes k (u 0) 600 zOS ++ wRules k (u 2) i8.1 ++ wCourt k (u 3) i8.2 ++ wCourt k (u 4) zOS ++ wReader k (u 5) (u 0 0) (u 4 0) (u 6 0) zRd ++ wRules k (u 6) zOS ++ wPast k (u 7) (fun _ _ => 0) zPS) ++ wStr k x1 x2 (setupL P q e0 e1 e2 e3 e4 o).length x3) H locs := by simpa only [List.append_assoc] using hW
  refine k_callSi (As := [.ref (a1 0), .ref x1]) (rest := []) (ws2 := fun u9 => (wMCo k a1 (u 0 0) (u 1 0) (u 2 0) (u 3 0) (u 4 0) (u 5 0) (u 7 0) .null u9.1 ++ wBytes k (u 0) 600 u9.2.1 ++ wRules k (u 2) u9.2.2.1 ++ wCourt k (u 3) u9.2.2.2.1 ++ wCourt k (u 4) u9.2.2.2.2.1 ++ wReader k (u 5) (u 0 0) (u 4 0) (u 6 0) u9.2.2.2.2.2.1 ++ wRules k (u 6) u9.2.2.2.2.2.2.1 ++ wPast k (u 7) (fun _ _ => 0) u9.2.2.2.2.2.2.2) ++ wStr k x1 x2 (setupL P q e0 e1 e2 e3 e4 o).length x3) (c_L_parsed n l k hE a1 (u 0) (u 1) (u 2) (u 3) (u 4) (u 5) (u 6) (u 7) (fun _ _ => 0) .null zOS zOS i8.1 i8.2 zOS zRd zOS zPS x1 x2 (setupL P q e0 e1 e2 e3 e4 o).length x3 (tx (setupL P q e0 e1 e2 e3 e4 o)) hn9 hS in1 r1 hF hT (th, in2, ru, no, fo, rd9, rr9, pa, nI q) hpr) E sl_L_137 dL_law_35 rfl (List.range' 0 38) hW hA hl rfl (blk_map [] ((wMCo k a1 (u 0 0) (u 1 0) (u 2 0) (u 3 0) (u 4 0) (u 5 0) (u 7 0) .null zOS ++ wBytes k (u 0) 600 zOS ++ wRules k (u 2) i8.1 ++ wCourt k (u 3) i8.2 ++ wCourt k (u 4) zOS ++ wReader k (u 5) (u 0 0) (u 4 0) (u 6 0) zRd ++ wRules k (u 6) zOS ++ wPast k (u 7) (fun _ _ => 0) zPS) ++ wStr k x1 x2 (setupL P q e0 e1 e2 e3 e4 o).length x3) [] 0 38 (by rw [List.append_nil]; rfl) rfl rfl) ⟨Nat.le_of_ble_eq_true rfl, Nat.le_of_ble_eq_true rfl⟩ ⟨Nat.le_of_ble_eq_true rfl, Nat.le_of_ble_eq_true rfl⟩ (Nat.le_of_ble_eq_true rfl) rfl (fun _ => rfl) (fun u9 => by rw [blk_put [] ((wMCo k a1 (u 0 0) (u 1 0) (u 2 0) (u 3 0) (u 4 0) (u 5 0) (u 7 0) .null zOS ++ wBytes k (u 0) 600 zOS ++ wRules k (u 2) i8.1 ++ wCourt k (u 3) i8.2 ++ wCourt k (u 4) zOS ++ wReader k (u 5) (u 0 0) (u 4 0) (u 6 0) zRd ++ wRules k (u 6) zOS ++ wPast k (u 7) (fun _ _ => 0) zPS) ++ wStr k x1 x2 (setupL P q e0 e1 e2 e3 e4 o).length x3) [] ((wMCo k a1 (u 0 0) (u 1 0) (u 2 0) (u 3 0) (u 4 0) (u 5 0) (u 7 0) .null u9.1 ++ wBytes k (u 0) 600 u9.2.1 ++ wRules k (u 2) u9.2.2.1 ++ wCourt k (u 3) u9.2.2.2.1 ++ wCourt k (u 4) u9.2.2.2.2.1 ++ wReader k (u 5) (u 0 0) (u 4 0) (u 6 0) u9.2.2.2.2.2.1 ++ wRules k (u 6) u9.2.2.2.2.2.2.1 ++ wPast k (u 7) (fun _ _ => 0) u9.2.2.2.2.2.2.2) ++ wStr k x1 x2 (setupL P q e0 e1 e2 e3 e4 o).length x3) 0 38 (by rw [List.append_nil]; rfl) rfl rfl rfl, List.append_nil]; rfl) (fun r u9 H locs hp hW => ?_)
  obtain ⟨y1, y2, y3, y4, y5, y6, y7, y8⟩ := u9
  dsimp only at hp hW
  cases hp
  refine k_iload_n E hl 0 dL_law_38 rfl ?_
  refine lv_icmp_eq (tgt := 44) E.hx E.hb dL_law_39 (by decide) (fun hc => ?_) (fun hc => absurd rfl hc)
  have hW := hW.left
  have hW : WD k (fun q : Nat => s.heap.size ≤ q) s.heap (((wMCo k a1 (u 0 0) (u 1 0) (u 2 0) (u 3 0) (u 4 0) (u 5 0) (u 7 0) .null th) ++ (wBytes k (u 0) 600 in2)) ++ ((wRules k (u 2) ru ++ wCourt k (u 3) no ++ wCourt k (u 4) fo) ++ ((wReader k (u 5) (u 0 0) (u 4 0) (u 6 0) rd9 ++ wRules k (u 6) rr9) ++ (wPast k (u 7) (fun _ _ => 0) pa)))) H locs := by simpa only [List.append_assoc] using hW
  have hW := hW.swap.left
  have hW : WD k (fun q : Nat => s.heap.size ≤ q) s.heap ((((wMCo k a1 (u 0 0) (u 1 0) (u 2 0) (u 3 0) (u 4 0) (u 5 0) (u 7 0) .null th) ++ (wRules k (u 2) ru ++ wCourt k (u 3) no ++ wCourt k (u 4) fo)) ++ (wReader k (u 5) (u 0 0) (u 4 0) (u 6 0) rd9 ++ wRules k (u 6) rr9)) ++ (wPast k (u 7) (fun _ _ => 0) pa)) H locs := by simpa only [List.append_assoc] using hW
  have hW := hW.swap.left
  have hW : WD k (fun q : Nat => s.heap.size ≤ q) s.heap ((wMCo k a1 (u 0 0) (u 1 0) (u 2 0) (u 3 0) (u 4 0) (u 5 0) (u 7 0) .null th ++ wRules k (u 2) ru ++ wCourt k (u 3) no ++ wCourt k (u 4) fo ++ wPast k (u 7) (fun _ _ => 0) pa) ++ poolW k (fun _ _ => 0) pa.2) H locs := by
    have ep : poolW k (fun _ _ => 0) pa.2 = [] := by unfold poolW; rw [hpa]; rfl
    rw [ep, List.append_nil]
    simpa only [List.append_assoc] using hW
  refine k_aload_n E hl 3 dL_law_44 rfl ?_
  refine lv_bipush (v := (8 : Int32)) E.hx E.hb dL_law_45 bp_8 ?_
  refine lv_iconst (v := (3 : Int32)) E.hx E.hb dL_law_47 ic_3 ?_
  refine lv_bipush (v := (22 : Int32)) E.hx E.hb dL_law_48 bp_22 ?_
  have hW : WD k (fun q : Nat => s.heap.size ≤ q) s.heap (((wMCo k a1 (u 0 0) (u 1 0) (u 2 0) (u 3 0) (u 4 0) (u 5 0) (u 7 0) .null th ++ wRules k (u 2) ru ++ wCourt k (u 3) no ++ wCourt k (u 4) fo ++ wPast k (u 7) (fun _ _ => 0) pa) ++ poolW k (fun _ _ => 0) pa.2) ++ []) H locs := by rw [List.append_nil]; exact hW
  refine k_fini (X := ((wMCo k a1 (u 0 0) (u 1 0) (u 2 0) (u 3 0) (u 4 0) (u 5 0) (u 7 0) .null th ++ wRules k (u 2) ru ++ wCourt k (u 3) no ++ wCourt k (u 4) fo ++ wPast k (u 7) (fun _ _ => 0) pa) ++ poolW k (fun _ _ => 0) pa.2)) (k_rS (X := ((wMCo k a1 (u 0 0) (u 1 0) (u 2 0) (u 3 0) (u 4 0) (u 5 0) (u 7 0) .null th ++ wRules k (u 2) ru ++ wCourt k (u 3) no ++ wCourt k (u 4) fo ++ wPast k (u 7) (fun _ _ => 0) pa) ++ poolW k (fun _ _ => 0) pa.2)) (As := [.ref b, .int (8 : Int32), .int (3 : Int32), .int (22 : Int32)]) (rest := []) (c_L_draw n l k b L xs (8 : Int32) (3 : Int32) (22 : Int32) (nI many) hdm hSX) E sl_L_62 dL_law_50 hW hA hl rfl ⟨by decide, by decide⟩ ⟨Nat.le_of_ble_eq_true rfl, Nat.le_of_ble_eq_true rfl⟩ (Nat.le_of_ble_eq_true rfl)) E hW hA (fun r u8 H locs hp hW => ?_)
  have hp : nI many = r := hp
  subst hp
  have hW : WD k (fun q : Nat => s.heap.size ≤ q) s.heap ((wMCo k a1 (u 0 0) (u 1 0) (u 2 0) (u 3 0) (u 4 0) (u 5 0) (u 7 0) .null th ++ wRules k (u 2) ru ++ wCourt k (u 3) no ++ wCourt k (u 4) fo ++ wPast k (u 7) (fun _ _ => 0) pa) ++ poolW k (fun _ _ => 0) pa.2) H locs := by rw [List.append_nil] at hW; exact hW
  refine k_istore (lv' := [(4, .int (nI many)), (3, .int (nI q)), (2, .int (nI P)), (1, .ref (a1 0)), (0, .ref b)]) E rfl hl dL_law_53 (by decide) rfl (fun ls hl => ?_)
  refine lv_iconst (v := (0 : Int32)) E.hx E.hb dL_law_55 ic_0 ?_
  refine k_istore (lv' := [(5, .int (0 : Int32)), (4, .int (nI many)), (3, .int (nI q)), (2, .int (nI P)), (1, .ref (a1 0)), (0, .ref b)]) E rfl hl dL_law_56 (by decide) rfl (fun ls hl => ?_)
  have hl : lv_has ls 21 [(5, .int (nI 0)), (0, .ref b), (1, .ref (a1 0)), (2, .int (nI P)), (3, .int (nI q)), (4, .int (nI many))] := lv_sub hl [0, 5, 4, 3, 2, 1] rfl
  refine W.widen (k := 200 + 13 * 0) (n := 100000 + 2000 * 0) (Nat.le_of_ble_eq_true rfl) (Nat.le_of_ble_eq_true rfl) ?_
  refine w_acts n l k b a1 (u 0) (u 1) (u 2) (u 3) (u 4) (u 5) (u 7) L xs .null th ru fo (no, pa) (nI P) (nI q) many hmany hF9 hSX E hA (fun y pp H locs ls hy hW hl => ?_) many 0 (by omega) (no, pa) rfl (fun _ _ => 0) H locs ls hW hl
  obtain ⟨res, hlaw, th1, c1, tm, h1, no2, pa2, r2, h2, hr2, no3, pa3, h3, h4, no4, r5, h5, hr5⟩ := hend y hy
  refine w_L_law n l k b a1 (u 0) (u 1) (u 2) (u 3) (u 4) (u 5) (u 7) pp L xs .null th ru y.1 fo y.2 (nI P) (nI q) res hlaw hSX E hW hA hl (fun pp H locs ls hW hl => ?_)
  exact w_tail n l k a1 (u 0) (u 1) (u 2) (u 3) (u 4) (u 5) (u 7) pp th ru res.1 res.2.1 res.2.2 (nI P) (nI q) th1 c1 tm h1 no2 pa2 r2 h2 hr2 no3 pa3 h3 h4 no4 r5 h5 hr5 E hA hW hl (fun H locs ls ws hW => va_forget hW.2.2.2.2 (lw_ret hx hb hr hlocks dL_law_494))
