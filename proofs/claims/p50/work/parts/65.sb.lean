theorem dJ5_getValue_6d5f1_0 : decode cJ5_getValue_6d5f1 0 = .ok (.aload_n 0, 1) := by decide +kernel
theorem dJ5_getValue_6d5f1_1 : decode cJ5_getValue_6d5f1 1 = .ok (.getfield 15, 3) := by decide +kernel
theorem dJ5_getValue_6d5f1_4 : decode cJ5_getValue_6d5f1 4 = .ok (.areturn, 1) := by decide +kernel
set_option maxHeartbeats 4000000 in
set_option maxRecDepth 100000 in
theorem c_gv (l : Launch) (k : KT) (a v cap cnt : Nat) (ml : Int32) (f : Nat → Int32) : CG l k yJ5_getValue_6d5f1 cJ5_getValue_6d5f1 1 (some (.array .byte)) 0 0 0 0 [.ref a] (wSB k a v cap ml cnt f) (Qw k (fun u : Unit => wSB k a v cap ml cnt f) (fun (r : Nat) (u : Unit) => v = r)) := by
  refine CG.ofQ (by decide) (Nat.le_of_ble_eq_true rfl) (fun p e s m args below meth c A Q E hnm hW hA hret ls hl => ?_)
  have hl : lv_has ls 1 [(0, .ref a)] := hl
  refine k_aload_n E hl 0 dJ5_getValue_6d5f1_0 rfl ?_
  refine gf_J5_15 E hW 0 rfl rfl dJ5_getValue_6d5f1_1 ?_
  exact hret v () _ _ _ _ _ _ hW rfl (by decide) (by decide) dJ5_getValue_6d5f1_4

theorem dJ5_length_8abf5_0 : decode cJ5_length_8abf5 0 = .ok (.aload_n 0, 1) := by decide +kernel
theorem dJ5_length_8abf5_1 : decode cJ5_length_8abf5 1 = .ok (.getfield 79, 3) := by decide +kernel
theorem dJ5_length_8abf5_4 : decode cJ5_length_8abf5 4 = .ok (.ireturn, 1) := by decide +kernel
set_option maxHeartbeats 4000000 in
set_option maxRecDepth 100000 in
theorem c_sbl5 (l : Launch) (k : KT) (a v cap cnt : Nat) (ml : Int32) (f : Nat → Int32) : CG l k yJ5_length_8abf5 cJ5_length_8abf5 1 (some .int) 0 0 0 0 [.ref a] (wSB k a v cap ml cnt f) (Qi k (fun u : Unit => wSB k a v cap ml cnt f) (fun (r : Int32) (u : Unit) => nI cnt = r)) := by
  refine CG.ofI (by decide) (Nat.le_of_ble_eq_true rfl) (fun p e s m args below meth c A Q E hnm hW hA hret ls hl => ?_)
  have hl : lv_has ls 1 [(0, .ref a)] := hl
  refine k_aload_n E hl 0 dJ5_length_8abf5_0 rfl ?_
  refine gf_J5_79 E hW 0 rfl rfl dJ5_length_8abf5_1 ?_
  exact hret _ () _ _ _ _ _ _ hW rfl rfl (by decide) (by decide) dJ5_length_8abf5_4

theorem dJ4_length_8abf5_0 : decode cJ4_length_8abf5 0 = .ok (.aload_n 0, 1) := by decide +kernel
theorem dJ4_length_8abf5_1 : decode cJ4_length_8abf5 1 = .ok (.invokespecial 343, 3) := by decide +kernel
theorem dJ4_length_8abf5_4 : decode cJ4_length_8abf5 4 = .ok (.ireturn, 1) := by decide +kernel
set_option maxHeartbeats 4000000 in
set_option maxRecDepth 100000 in
theorem c_sbl (l : Launch) (k : KT) (a v cap cnt : Nat) (ml : Int32) (f : Nat → Int32) : CG l k yJ4_length_8abf5 cJ4_length_8abf5 1 (some .int) 1 0 0 20 [.ref a] (wSB k a v cap ml cnt f) (Qi k (fun u : Unit => wSB k a v cap ml cnt f) (fun (r : Int32) (u : Unit) => nI cnt = r)) := by
  refine CG.ofI (by decide) (Nat.le_of_ble_eq_true rfl) (fun p e s m args below meth c A Q E hnm hW hA hret ls hl => ?_)
  have hl : lv_has ls 1 [(0, .ref a)] := hl
  refine k_aload_n E hl 0 dJ4_length_8abf5_0 rfl ?_
  refine k_fini (X := []) (k_rSU (X := []) (As := []) (rest := []) (E.hK.1 1 (RJ4, TJ4, 4) rfl).2 (c_sbl5 l k a v cap cnt ml f) E (js_J4_343.cw E ⟨by decide, by decide⟩) dJ4_length_8abf5_1 (va_recv E.hK hW.1 (q := (RJ4, TJ4, 4)) (ci := 1) rfl (q0 := 0) rfl) hW hA hl rfl ⟨by decide, by decide⟩ (Nat.le_of_ble_eq_true rfl)) E hW hA (fun r u H locs hp hW => ?_)
  subst hp
  exact hret _ () _ _ _ _ _ _ hW rfl rfl (by decide) (by decide) dJ4_length_8abf5_4

theorem dJ7_checkLength_df160_0 : decode cJ7_checkLength_df160 0 = .ok (.iload_n 1, 1) := by decide +kernel
theorem dJ7_checkLength_df160_1 : decode cJ7_checkLength_df160 1 = .ok (.iload_n 0, 1) := by decide +kernel
theorem dJ7_checkLength_df160_2 : decode cJ7_checkLength_df160 2 = .ok (.if_icmp .ge 35, 3) := by decide +kernel
theorem dJ7_checkLength_df160_5 : decode cJ7_checkLength_df160 5 = .ok (.new 43, 3) := by decide +kernel
theorem dJ7_checkLength_df160_8 : decode cJ7_checkLength_df160 8 = .ok (.dup, 1) := by decide +kernel
theorem dJ7_checkLength_df160_9 : decode cJ7_checkLength_df160 9 = .ok (.new 45, 3) := by decide +kernel
theorem dJ7_checkLength_df160_12 : decode cJ7_checkLength_df160 12 = .ok (.dup, 1) := by decide +kernel
theorem dJ7_checkLength_df160_13 : decode cJ7_checkLength_df160 13 = .ok (.invokespecial 47, 3) := by decide +kernel
theorem dJ7_checkLength_df160_16 : decode cJ7_checkLength_df160 16 = .ok (.iload_n 0, 1) := by decide +kernel
theorem dJ7_checkLength_df160_17 : decode cJ7_checkLength_df160 17 = .ok (.invokevirtual 54, 3) := by decide +kernel
theorem dJ7_checkLength_df160_20 : decode cJ7_checkLength_df160 20 = .ok (.ldc_w 337, 3) := by decide +kernel
theorem dJ7_checkLength_df160_23 : decode cJ7_checkLength_df160 23 = .ok (.invokevirtual 50, 3) := by decide +kernel
theorem dJ7_checkLength_df160_26 : decode cJ7_checkLength_df160 26 = .ok (.iload_n 1, 1) := by decide +kernel
theorem dJ7_checkLength_df160_27 : decode cJ7_checkLength_df160 27 = .ok (.invokevirtual 54, 3) := by decide +kernel
theorem dJ7_checkLength_df160_30 : decode cJ7_checkLength_df160 30 = .ok (.invokevirtual 61, 3) := by decide +kernel
theorem dJ7_checkLength_df160_33 : decode cJ7_checkLength_df160 33 = .ok (.invokespecial 65, 3) := by decide +kernel
theorem dJ7_checkLength_df160_36 : decode cJ7_checkLength_df160 36 = .ok (.athrow, 1) := by decide +kernel
theorem dJ7_checkLength_df160_37 : decode cJ7_checkLength_df160 37 = .ok (.return_, 1) := by decide +kernel
set_option maxHeartbeats 4000000 in
set_option maxRecDepth 100000 in
theorem c_ckl (l : Launch) (k : KT) (cnt : Nat) (hcnt : cnt ≤ 602) : CG l k yJ7_checkLength_df160 cJ7_checkLength_df160 2 none 0 0 0 0 [.int (0 : Int32), .int (nI cnt)] ([]) (Qv k (fun u : Unit => []) (fun u : Unit => True)) := by
  refine CG.ofV (by decide) (Nat.le_of_ble_eq_true rfl) (fun p e s m args below meth c A Q E hnm hW hA hret ls hl => ?_)
  have hl : lv_has ls 2 [(0, .int (0 : Int32)), (1, .int (nI cnt))] := hl
  refine k_iload_n E hl 1 dJ7_checkLength_df160_0 rfl ?_
  refine k_iload_n E hl 0 dJ7_checkLength_df160_1 rfl ?_
  refine lv_icmp_ge (tgt := 37) E.hx E.hb dJ7_checkLength_df160_2 (by decide) (fun hc => ?_) (fun hc => absurd (nI_pos' (by omega)) hc)
  exact hret () _ _ _ _ _ _ hW trivial (by decide) (by decide) dJ7_checkLength_df160_37

theorem sx_min {a b : Nat} (h : a ≤ b) (hb : b < 2 ^ 31) : (if nI a < nI b then nI a else nI b) = nI a := by
  rcases Nat.lt_or_ge a b with q | q
  · exact if_pos (nI_lt q hb)
  · rw [if_neg (nI_nlt q (by omega)), show b = a by omega]
theorem dJ7_copyOfRangeByte_39247_0 : decode cJ7_copyOfRangeByte_39247 0 = .ok (.iload_n 1, 1) := by decide +kernel
theorem dJ7_copyOfRangeByte_39247_1 : decode cJ7_copyOfRangeByte_39247 1 = .ok (.iload_n 2, 1) := by decide +kernel
theorem dJ7_copyOfRangeByte_39247_2 : decode cJ7_copyOfRangeByte_39247 2 = .ok (.invokestatic 343, 3) := by decide +kernel
theorem dJ7_copyOfRangeByte_39247_5 : decode cJ7_copyOfRangeByte_39247 5 = .ok (.iload_n 2, 1) := by decide +kernel
theorem dJ7_copyOfRangeByte_39247_6 : decode cJ7_copyOfRangeByte_39247 6 = .ok (.iload_n 1, 1) := by decide +kernel
theorem dJ7_copyOfRangeByte_39247_7 : decode cJ7_copyOfRangeByte_39247 7 = .ok (.isub, 1) := by decide +kernel
theorem dJ7_copyOfRangeByte_39247_8 : decode cJ7_copyOfRangeByte_39247 8 = .ok (.istore_n 3, 1) := by decide +kernel
theorem dJ7_copyOfRangeByte_39247_9 : decode cJ7_copyOfRangeByte_39247 9 = .ok (.iload_n 3, 1) := by decide +kernel
theorem dJ7_copyOfRangeByte_39247_10 : decode cJ7_copyOfRangeByte_39247 10 = .ok (.newarray .byte, 2) := by decide +kernel
theorem dJ7_copyOfRangeByte_39247_12 : decode cJ7_copyOfRangeByte_39247 12 = .ok (.astore 4, 2) := by decide +kernel
theorem dJ7_copyOfRangeByte_39247_14 : decode cJ7_copyOfRangeByte_39247 14 = .ok (.aload_n 0, 1) := by decide +kernel
theorem dJ7_copyOfRangeByte_39247_15 : decode cJ7_copyOfRangeByte_39247 15 = .ok (.iload_n 1, 1) := by decide +kernel
theorem dJ7_copyOfRangeByte_39247_16 : decode cJ7_copyOfRangeByte_39247 16 = .ok (.aload 4, 2) := by decide +kernel
theorem dJ7_copyOfRangeByte_39247_18 : decode cJ7_copyOfRangeByte_39247 18 = .ok (.iconst 0, 1) := by decide +kernel
theorem dJ7_copyOfRangeByte_39247_19 : decode cJ7_copyOfRangeByte_39247 19 = .ok (.aload_n 0, 1) := by decide +kernel
theorem dJ7_copyOfRangeByte_39247_20 : decode cJ7_copyOfRangeByte_39247 20 = .ok (.arraylength, 1) := by decide +kernel
theorem dJ7_copyOfRangeByte_39247_21 : decode cJ7_copyOfRangeByte_39247 21 = .ok (.iload_n 1, 1) := by decide +kernel
theorem dJ7_copyOfRangeByte_39247_22 : decode cJ7_copyOfRangeByte_39247 22 = .ok (.isub, 1) := by decide +kernel
theorem dJ7_copyOfRangeByte_39247_23 : decode cJ7_copyOfRangeByte_39247 23 = .ok (.iload_n 3, 1) := by decide +kernel
theorem dJ7_copyOfRangeByte_39247_24 : decode cJ7_copyOfRangeByte_39247 24 = .ok (.invokestatic 304, 3) := by decide +kernel
theorem dJ7_copyOfRangeByte_39247_27 : decode cJ7_copyOfRangeByte_39247 27 = .ok (.invokestatic 150, 3) := by decide +kernel
theorem dJ7_copyOfRangeByte_39247_30 : decode cJ7_copyOfRangeByte_39247 30 = .ok (.aload 4, 2) := by decide +kernel
theorem dJ7_copyOfRangeByte_39247_32 : decode cJ7_copyOfRangeByte_39247 32 = .ok (.areturn, 1) := by decide +kernel
set_option maxHeartbeats 4000000 in
set_option maxRecDepth 100000 in
theorem c_corB (l : Launch) (k : KT) (v cap cnt : Nat) (f : Nat → Int32) (hf : sb_Fit f) (hcap : cnt ≤ cap) (h2 : cap ≤ 602) : CG l k yJ7_copyOfRangeByte_39247 cJ7_copyOfRangeByte_39247 5 (some (.array .byte)) 1 1 602 26 [.ref v, .int (0 : Int32), .int (nI cnt)] ([(v, .inl (k.2.1.1 2, cap, .inl f))]) (Qw k (fun u : Nat => [(v, .inl (k.2.1.1 2, cap, .inl f)), (u, .inl (k.2.1.1 2, cnt, .inl (va_cpy f (fun _ => 0) 0 0 cnt)))]) (fun (r : Nat) (u : Nat) => u = r)) := by
  refine CG.ofQ (by decide) (Nat.le_of_ble_eq_true rfl) (fun p e s m args below meth c A Q E hnm hW hA hret ls hl => ?_)
  have hl : lv_has ls 5 [(0, .ref v), (1, .int (0 : Int32)), (2, .int (nI cnt))] := hl
  refine k_iload_n E hl 1 dJ7_copyOfRangeByte_39247_0 rfl ?_
  refine k_iload_n E hl 2 dJ7_copyOfRangeByte_39247_1 rfl ?_
  refine k_finv (X := [(v, .inl (k.2.1.1 2, cap, .inl f))]) (k_rS (X := [(v, .inl (k.2.1.1 2, cap, .inl f))]) (As := [.int (0 : Int32), .int (nI cnt)]) (rest := []) (c_ckl l k cnt (by omega)) E sl_J7_343 dJ7_copyOfRangeByte_39247_2 hW hA hl rfl ⟨by decide, by decide⟩ ⟨by decide, by decide⟩ (Nat.le_of_ble_eq_true rfl)) E hW hA (fun u H locs hp hW => ?_)
  have hW : WD k A s.heap ([(v, .inl (k.2.1.1 2, cap, .inl f))]) H locs := by rw [List.append_nil] at hW; exact hW
  refine k_iload_n E hl 2 dJ7_copyOfRangeByte_39247_5 rfl ?_
  refine k_iload_n E hl 1 dJ7_copyOfRangeByte_39247_6 rfl ?_
  refine lv_isub E.hx E.hb dJ7_copyOfRangeByte_39247_7 ?_
  refine k_topi (y := (nI cnt)) ((Int32.sub_zero _).symm) ?_
  refine k_istore_n (lv' := [(3, .int (nI cnt)), (0, .ref v), (1, .int (0 : Int32)), (2, .int (nI cnt))]) E rfl hl dJ7_copyOfRangeByte_39247_8 rfl (by decide) rfl (fun ls hl => ?_)
  refine k_iload_n E hl 0 dJ7_copyOfRangeByte_39247_9 rfl ?_
  refine k_newB (N := cnt) E hW hA (nI_pos (by omega)) (nI_clamp (by omega)) (by omega) (by first | exact Nat.le_of_ble_eq_true rfl | exact Nat.le_refl _ | omega) (by first | decide | exact Nat.le_of_ble_eq_true rfl | exact Nat.le_refl _ | (simp; omega) | simp | omega) dJ7_copyOfRangeByte_39247_10 (fun q1 H hW => ?_)
  have hW : WD k A s.heap ([(v, .inl (k.2.1.1 2, cap, .inl f)), (q1, .inl (k.2.1.1 2, cnt, .inl (fun _ => 0)))]) H _ := hW
  refine lv_astore (lv' := [(4, .ref q1), (3, .int (nI cnt)), (0, .ref v), (1, .int (0 : Int32)), (2, .int (nI cnt))]) E.hx E.hb dJ7_copyOfRangeByte_39247_12 hl (by decide) rfl (fun ls hl => ?_)
  refine k_aload_n E hl 2 dJ7_copyOfRangeByte_39247_14 rfl ?_
  refine k_iload_n E hl 3 dJ7_copyOfRangeByte_39247_15 rfl ?_
  refine k_aload E hl 0 dJ7_copyOfRangeByte_39247_16 rfl ?_
  refine lv_iconst (v := (0 : Int32)) E.hx E.hb dJ7_copyOfRangeByte_39247_18 ic_0 ?_
  refine k_aload_n E hl 2 dJ7_copyOfRangeByte_39247_19 rfl ?_
  refine k_alen (v := nI cap) E hW 0 2 rfl rfl rfl dJ7_copyOfRangeByte_39247_20 ?_
  refine k_iload_n E hl 3 dJ7_copyOfRangeByte_39247_21 rfl ?_
  refine lv_isub E.hx E.hb dJ7_copyOfRangeByte_39247_22 ?_
  refine k_topi (y := (nI cap)) ((Int32.sub_zero _).symm) ?_
  refine k_iload_n E hl 1 dJ7_copyOfRangeByte_39247_23 rfl ?_
  refine va_mmin E.hx E.hb (E.hml.trans hl.1.symm) E.ho (E.w tm_948 rfl) (E.w tm_537 rfl) (E.w tm_35 rfl) (E.w tm_538 rfl) (by first | decide | exact Nat.le_of_ble_eq_true rfl | (show _ ≤ _; omega) | (simp; omega) | simp) (by first | decide | exact Nat.le_of_ble_eq_true rfl | (show _ ≤ _; omega) | (simp; omega) | simp) (by first | decide | exact Nat.le_of_ble_eq_true rfl | (show _ ≤ _; omega) | (simp; omega) | simp) (by first | decide | exact Nat.le_of_ble_eq_true rfl | (show _ ≤ _; omega) | (simp; omega) | simp) dJ7_copyOfRangeByte_39247_24 ?_
  refine k_topi (y := (nI cnt)) ((sx_min hcap (by omega)).symm) ?_
  refine va_copyi E.hx E.hb (E.hml.trans hl.1.symm) E.ho (E.w tm_949 rfl) (E.w tm_531 rfl) (E.w tm_530 rfl) (E.w tm_49 rfl) E.hK hW.1 hW.2.1 hW.2.2 0 1 2 2 rfl rfl rfl rfl rfl (by decide) (by decide) (nI_pos (by omega)) (by rw [nI_clamp (by omega)]; show 0 + cnt ≤ cap; omega) (by rw [nI_clamp (by omega)]; show 0 + cnt ≤ cnt; omega) (fun i _ => hf _) (by first | decide | exact Nat.le_of_ble_eq_true rfl | (show _ ≤ _; omega) | (simp; omega) | simp) (by first | decide | exact Nat.le_of_ble_eq_true rfl | (show _ ≤ _; omega) | (simp; omega) | simp) dJ7_copyOfRangeByte_39247_27 (fun H locs h1 h2 h3 => ?_)
  have hW : WD k A s.heap ([(v, .inl (k.2.1.1 2, cap, .inl f)), (q1, .inl (k.2.1.1 2, cnt, .inl (va_cpy f (fun _ => 0) 0 0 cnt)))]) H locs := by
    have e : (nI cnt).toNatClampNeg = cnt := nI_clamp (by omega)
    rw [e, sb_cl0] at h1 h2
    exact ⟨h1, h2, h3⟩
  refine k_aload E hl 0 dJ7_copyOfRangeByte_39247_30 rfl ?_
  exact hret q1 q1 _ _ _ _ _ _ hW rfl (by first | decide | exact Nat.le_of_ble_eq_true rfl | exact Nat.le_refl _ | (simp; omega) | simp | omega) (by first | decide | exact Nat.le_of_ble_eq_true rfl | exact Nat.le_refl _ | (simp; omega) | simp | omega) dJ7_copyOfRangeByte_39247_32

theorem dJ7_copyOfRange_39247_0 : decode cJ7_copyOfRange_39247 0 = .ok (.iload_n 1, 1) := by decide +kernel
theorem dJ7_copyOfRange_39247_1 : decode cJ7_copyOfRange_39247 1 = .ok (.ifCond .ne 9, 3) := by decide +kernel
theorem dJ7_copyOfRange_39247_4 : decode cJ7_copyOfRange_39247 4 = .ok (.iload_n 2, 1) := by decide +kernel
theorem dJ7_copyOfRange_39247_5 : decode cJ7_copyOfRange_39247 5 = .ok (.aload_n 0, 1) := by decide +kernel
theorem dJ7_copyOfRange_39247_6 : decode cJ7_copyOfRange_39247 6 = .ok (.arraylength, 1) := by decide +kernel
theorem dJ7_copyOfRange_39247_7 : decode cJ7_copyOfRange_39247 7 = .ok (.if_icmp .eq 10, 3) := by decide +kernel
theorem dJ7_copyOfRange_39247_10 : decode cJ7_copyOfRange_39247 10 = .ok (.aload_n 0, 1) := by decide +kernel
theorem dJ7_copyOfRange_39247_11 : decode cJ7_copyOfRange_39247 11 = .ok (.iload_n 1, 1) := by decide +kernel
theorem dJ7_copyOfRange_39247_12 : decode cJ7_copyOfRange_39247 12 = .ok (.iload_n 2, 1) := by decide +kernel
theorem dJ7_copyOfRange_39247_13 : decode cJ7_copyOfRange_39247 13 = .ok (.invokestatic 339, 3) := by decide +kernel
theorem dJ7_copyOfRange_39247_16 : decode cJ7_copyOfRange_39247 16 = .ok (.areturn, 1) := by decide +kernel
theorem dJ7_copyOfRange_39247_17 : decode cJ7_copyOfRange_39247 17 = .ok (.aload_n 0, 1) := by decide +kernel
theorem dJ7_copyOfRange_39247_18 : decode cJ7_copyOfRange_39247 18 = .ok (.invokevirtual 310, 3) := by decide +kernel
theorem dJ7_copyOfRange_39247_21 : decode cJ7_copyOfRange_39247 21 = .ok (.checkcast 311, 3) := by decide +kernel
theorem dJ7_copyOfRange_39247_24 : decode cJ7_copyOfRange_39247 24 = .ok (.areturn, 1) := by decide +kernel
set_option maxHeartbeats 4000000 in
set_option maxRecDepth 100000 in
theorem c_cor (l : Launch) (k : KT) (v cap cnt : Nat) (f : Nat → Int32) (hf : sb_Fit f) (hcap : cnt ≤ cap) (h2 : cap ≤ 602) : CG l k yJ7_copyOfRange_39247 cJ7_copyOfRange_39247 3 (some (.array .byte)) 2 1 602 50 [.ref v, .int (0 : Int32), .int (nI cnt)] ([(v, .inl (k.2.1.1 2, cap, .inl f))]) (Qw k (fun u : Nat × (Nat → Int32) => [(v, .inl (k.2.1.1 2, cap, .inl f)), (u.1, .inl (k.2.1.1 2, cnt, .inl u.2))]) (fun (r : Nat) (u : Nat × (Nat → Int32)) => u.1 = r ∧ sb_Fit u.2 ∧ ∀ j, j < cnt → u.2 j = f j)) := by
  refine CG.ofQ (by decide) (Nat.le_of_ble_eq_true rfl) (fun p e s m args below meth c A Q E hnm hW hA hret ls hl => ?_)
  have hl : lv_has ls 3 [(0, .ref v), (1, .int (0 : Int32)), (2, .int (nI cnt))] := hl
  refine k_iload_n E hl 1 dJ7_copyOfRange_39247_0 rfl ?_
  refine lv_if_ne (tgt := 10) E.hx E.hb dJ7_copyOfRange_39247_1 (by decide) (fun hc => absurd rfl hc) (fun hc => ?_)
  refine k_iload_n E hl 2 dJ7_copyOfRange_39247_4 rfl ?_
  refine k_aload_n E hl 0 dJ7_copyOfRange_39247_5 rfl ?_
  refine k_alen (v := nI cap) E hW 0 2 rfl rfl rfl dJ7_copyOfRange_39247_6 ?_
  refine lv_icmp_eq (tgt := 17) E.hx E.hb dJ7_copyOfRange_39247_7 (by decide) (fun hc => ?_) (fun hc => ?_)
  · have hcc : cnt = cap := sx_inj (by omega) (by omega) hc
    subst hcc
    refine k_aload_n E hl 0 dJ7_copyOfRange_39247_17 rfl ?_
    have hnmB : s.vm.findClass "[B" = some (k.2.1.1 2) := (E.hK.2 2 (k.2.1.1 2, .byte) rfl).2
    refine va_clone (ad := "[B") E.hx E.hb (E.hml.trans hl.1.symm) E.ho (E.w tm_941 rfl) (E.w tm_942 rfl) (E.w tm_943 rfl) (E.w tm_944 rfl) (E.w tm_945 rfl) (va_Nw.of (A := args) rfl (E.w tm_946 rfl)) E.hK hW.1 hW.2.1 hW.2.2 hA 0 2 rfl rfl hnmB (fun i v9 h9 => ?_) (by decide) (Nat.le_of_ble_eq_true rfl) (by decide) (by show 0 + cnt ≤ 602; omega) dJ7_copyOfRange_39247_18 (fun q1 H _ h1 h2 h3 => ?_)
    · have hi : i < cnt := by
        have := (Array.getElem?_eq_some_iff.mp h9).1
        rw [show (vp_cell (k.2.1.1 2) (cnt, .inl f)).slots.size = cnt from arrV_size _ _ _] at this
        exact this
      have h8 := (arrV_read (k.2.1.1 2) (fun j => .int (f j)) hi).symm.trans h9
      rw [← Option.some.inj h8]
      exact hf i
    have hW : WD k A s.heap ([(v, .inl (k.2.1.1 2, cnt, .inl f)), (q1, .inl (k.2.1.1 2, cnt, .inl f))]) H _ := ⟨h1, h2, h3⟩
    refine va_castA E.hx E.hb E.ho (E.w tm_947 rfl) hW.1 1 rfl hnmB dJ7_copyOfRange_39247_21 ?_
    exact hret q1 (q1, f) _ _ _ _ _ _ hW ⟨rfl, hf, fun _ _ => rfl⟩ (by first | decide | exact Nat.le_of_ble_eq_true rfl | exact Nat.le_refl _ | (simp; omega) | simp | omega) (by first | decide | exact Nat.le_of_ble_eq_true rfl | exact Nat.le_refl _ | (simp; omega) | simp | omega) dJ7_copyOfRange_39247_24
  · refine k_aload_n E hl 0 dJ7_copyOfRange_39247_10 rfl ?_
    refine k_iload_n E hl 1 dJ7_copyOfRange_39247_11 rfl ?_
    refine k_iload_n E hl 2 dJ7_copyOfRange_39247_12 rfl ?_
    refine k_finw (X := []) (k_rS (X := []) (As := [.ref v, .int (0 : Int32), .int (nI cnt)]) (rest := []) (c_corB l k v cap cnt f hf hcap h2) E sl_J7_339 dJ7_copyOfRange_39247_13 hW hA hl rfl ⟨by decide, by decide⟩ ⟨by decide, by first | decide | exact Nat.le_of_ble_eq_true rfl | exact Nat.le_refl _ | (simp; omega) | simp | omega⟩ (Nat.le_of_ble_eq_true rfl)) E hW hA (fun r u H locs hp hW => ?_)
    subst hp
    exact hret u (u, _) _ _ _ _ _ _ hW ⟨rfl, sb_fitC hf sb_fit0, fun j hj => show va_cpy f (fun _ => 0) 0 0 cnt j = f j from sb_cpy0 hj⟩ (by first | decide | exact Nat.le_of_ble_eq_true rfl | exact Nat.le_refl _ | (simp; omega) | simp | omega) (by first | decide | exact Nat.le_of_ble_eq_true rfl | exact Nat.le_refl _ | (simp; omega) | simp | omega) dJ7_copyOfRange_39247_16

theorem dJ0_init_db425_0 : decode cJ0_init_db425 0 = .ok (.aload_n 0, 1) := by decide +kernel
theorem dJ0_init_db425_1 : decode cJ0_init_db425 1 = .ok (.invokespecial 1, 3) := by decide +kernel
theorem dJ0_init_db425_4 : decode cJ0_init_db425 4 = .ok (.aload_n 1, 1) := by decide +kernel
theorem dJ0_init_db425_5 : decode cJ0_init_db425 5 = .ok (.invokevirtual 552, 3) := by decide +kernel
theorem dJ0_init_db425_8 : decode cJ0_init_db425 8 = .ok (.astore_n 3, 1) := by decide +kernel
theorem dJ0_init_db425_9 : decode cJ0_init_db425 9 = .ok (.aload_n 1, 1) := by decide +kernel
theorem dJ0_init_db425_10 : decode cJ0_init_db425 10 = .ok (.invokevirtual 549, 3) := by decide +kernel
theorem dJ0_init_db425_13 : decode cJ0_init_db425 13 = .ok (.istore 4, 2) := by decide +kernel
theorem dJ0_init_db425_15 : decode cJ0_init_db425 15 = .ok (.aload_n 1, 1) := by decide +kernel
theorem dJ0_init_db425_16 : decode cJ0_init_db425 16 = .ok (.invokevirtual 1047, 3) := by decide +kernel
theorem dJ0_init_db425_19 : decode cJ0_init_db425 19 = .ok (.ifCond .eq 22, 3) := by decide +kernel
theorem dJ0_init_db425_22 : decode cJ0_init_db425 22 = .ok (.aload_n 0, 1) := by decide +kernel
theorem dJ0_init_db425_23 : decode cJ0_init_db425 23 = .ok (.iconst 0, 1) := by decide +kernel
theorem dJ0_init_db425_24 : decode cJ0_init_db425 24 = .ok (.putfield 15, 3) := by decide +kernel
theorem dJ0_init_db425_27 : decode cJ0_init_db425 27 = .ok (.aload_n 0, 1) := by decide +kernel
theorem dJ0_init_db425_28 : decode cJ0_init_db425 28 = .ok (.aload_n 3, 1) := by decide +kernel
theorem dJ0_init_db425_29 : decode cJ0_init_db425 29 = .ok (.iconst 0, 1) := by decide +kernel
theorem dJ0_init_db425_30 : decode cJ0_init_db425 30 = .ok (.iload 4, 2) := by decide +kernel
theorem dJ0_init_db425_32 : decode cJ0_init_db425 32 = .ok (.invokestatic 54, 3) := by decide +kernel
theorem dJ0_init_db425_35 : decode cJ0_init_db425 35 = .ok (.putfield 9, 3) := by decide +kernel
theorem dJ0_init_db425_38 : decode cJ0_init_db425 38 = .ok (.goto 59, 3) := by decide +kernel
theorem dJ0_init_db425_41 : decode cJ0_init_db425 41 = .ok (.getstatic 38, 3) := by decide +kernel
theorem dJ0_init_db425_44 : decode cJ0_init_db425 44 = .ok (.ifCond .eq 35, 3) := by decide +kernel
theorem dJ0_init_db425_47 : decode cJ0_init_db425 47 = .ok (.aload_n 1, 1) := by decide +kernel
theorem dJ0_init_db425_48 : decode cJ0_init_db425 48 = .ok (.getfield 1048, 3) := by decide +kernel
theorem dJ0_init_db425_51 : decode cJ0_init_db425 51 = .ok (.ifCond .eq 28, 3) := by decide +kernel
theorem dJ0_init_db425_54 : decode cJ0_init_db425 54 = .ok (.aload_n 0, 1) := by decide +kernel
theorem dJ0_init_db425_55 : decode cJ0_init_db425 55 = .ok (.aload_n 3, 1) := by decide +kernel
theorem dJ0_init_db425_56 : decode cJ0_init_db425 56 = .ok (.iconst 0, 1) := by decide +kernel
theorem dJ0_init_db425_57 : decode cJ0_init_db425 57 = .ok (.iload 4, 2) := by decide +kernel
theorem dJ0_init_db425_59 : decode cJ0_init_db425 59 = .ok (.invokestatic 1051, 3) := by decide +kernel
theorem dJ0_init_db425_62 : decode cJ0_init_db425 62 = .ok (.putfield 9, 3) := by decide +kernel
theorem dJ0_init_db425_65 : decode cJ0_init_db425 65 = .ok (.aload_n 0, 1) := by decide +kernel
theorem dJ0_init_db425_66 : decode cJ0_init_db425 66 = .ok (.aload_n 0, 1) := by decide +kernel
theorem dJ0_init_db425_67 : decode cJ0_init_db425 67 = .ok (.getfield 9, 3) := by decide +kernel
theorem dJ0_init_db425_70 : decode cJ0_init_db425 70 = .ok (.iload 4, 2) := by decide +kernel
theorem dJ0_init_db425_72 : decode cJ0_init_db425 72 = .ok (.invokestatic 47, 3) := by decide +kernel
theorem dJ0_init_db425_75 : decode cJ0_init_db425 75 = .ok (.putfield 15, 3) := by decide +kernel
theorem dJ0_init_db425_78 : decode cJ0_init_db425 78 = .ok (.return_, 1) := by decide +kernel
theorem dJ0_init_db425_79 : decode cJ0_init_db425 79 = .ok (.aload_n 0, 1) := by decide +kernel
theorem dJ0_init_db425_80 : decode cJ0_init_db425 80 = .ok (.iconst 1, 1) := by decide +kernel
theorem dJ0_init_db425_81 : decode cJ0_init_db425 81 = .ok (.putfield 15, 3) := by decide +kernel
theorem dJ0_init_db425_84 : decode cJ0_init_db425 84 = .ok (.aload_n 0, 1) := by decide +kernel
theorem dJ0_init_db425_85 : decode cJ0_init_db425 85 = .ok (.aload_n 3, 1) := by decide +kernel
theorem dJ0_init_db425_86 : decode cJ0_init_db425 86 = .ok (.iconst 0, 1) := by decide +kernel
theorem dJ0_init_db425_87 : decode cJ0_init_db425 87 = .ok (.iload 4, 2) := by decide +kernel
theorem dJ0_init_db425_89 : decode cJ0_init_db425 89 = .ok (.iconst 1, 1) := by decide +kernel
theorem dJ0_init_db425_90 : decode cJ0_init_db425 90 = .ok (.ishl, 1) := by decide +kernel
theorem dJ0_init_db425_91 : decode cJ0_init_db425 91 = .ok (.invokestatic 54, 3) := by decide +kernel
theorem dJ0_init_db425_94 : decode cJ0_init_db425 94 = .ok (.putfield 9, 3) := by decide +kernel
theorem dJ0_init_db425_97 : decode cJ0_init_db425 97 = .ok (.return_, 1) := by decide +kernel
set_option maxHeartbeats 4000000 in
set_option maxRecDepth 100000 in
theorem c_si3 (l : Launch) (k : KT) (hE : EH k) (b a v cap cnt : Nat) (ml : Int32) (f : Nat → Int32) (hf : sb_Fit f) (hcap : cnt ≤ cap) (h2 : cap ≤ 602) : CG l k yJ0_init_db425 cJ0_init_db425 5 none 3 1 602 72 [.ref b, .ref a, .null] ([(b, .inr (0, [.null, .int 0, .int 0, .int 0]))] ++ wSB k a v cap ml cnt f) (Qv k (fun u : Nat × (Nat → Int32) => [(b, .inr (0, [.ref u.1, .int 0, .int 0, .int 0]))] ++ [(a, .inr (1, [.ref v, .int 0, .int ml, .int (nI cnt)])), (v, .inl (k.2.1.1 2, cap, .inl f)), (u.1, .inl (k.2.1.1 2, cnt, .inl u.2))]) (fun u : Nat × (Nat → Int32) => sb_Fit u.2 ∧ ∀ j, j < cnt → u.2 j = f j)) := by
  refine CG.ofV (by decide) (Nat.le_of_ble_eq_true rfl) (fun p e s m args below meth c A Q E hnm hW hA hret ls hl => ?_)
  have hl : lv_has ls 5 [(0, .ref b), (1, .ref a), (2, .null)] := hl
  have hnm : meth.name = "<init>" := hnm
  refine k_aload_n E hl 0 dJ0_init_db425_0 rfl ?_
  refine k_objInit E hl tm_1076 dJ0_init_db425_1 (by decide) (by decide) ?_
  refine k_aload_n E hl 1 dJ0_init_db425_4 rfl ?_
  refine k_finw (X := [(b, .inr (0, [.null, .int 0, .int 0, .int 0]))]) (k_rV (X := [(b, .inr (0, [.null, .int 0, .int 0, .int 0]))]) (As := []) (rest := []) (c_gv l k a v cap cnt ml f) E (ji_J0_552.cw E ⟨by decide, by decide⟩) dJ0_init_db425_5 (va_recv E.hK hW.1 (q := (RJ4, TJ4, 4)) (ci := 1) rfl (q0 := 1) rfl) hW hA hl rfl ⟨by decide, by decide⟩ (Nat.le_of_ble_eq_true rfl)) E hW hA (fun r u H locs hp hW => ?_)
  subst hp
  refine lv_astore_n (lv' := [(3, .ref v), (0, .ref b), (1, .ref a), (2, .null)]) E.hx E.hb dJ0_init_db425_8 rfl hl (by decide) rfl (fun ls hl => ?_)
  refine k_aload_n E hl 2 dJ0_init_db425_9 rfl ?_
  refine k_fini (X := [(b, .inr (0, [.null, .int 0, .int 0, .int 0]))]) (k_rO (X := [(b, .inr (0, [.null, .int 0, .int 0, .int 0]))]) (As := []) (rest := []) (c_sbl l k a v cap cnt ml f) E (jo_J0_549.cw E ⟨by decide, by decide⟩) dJ0_init_db425_10 (va_recv E.hK hW.1 (q := (RJ4, TJ4, 4)) (ci := 1) rfl (q0 := 1) rfl) hW hA hl rfl ⟨by decide, by decide⟩ (Nat.le_of_ble_eq_true rfl)) E hW hA (fun r u H locs hp hW => ?_)
  subst hp
  refine k_istore (lv' := [(4, .int (nI cnt)), (3, .ref v), (0, .ref b), (1, .ref a), (2, .null)]) E rfl hl dJ0_init_db425_13 (by decide) rfl (fun ls hl => ?_)
  refine k_aload_n E hl 3 dJ0_init_db425_15 rfl ?_
  refine k_fini (X := [(b, .inr (0, [.null, .int 0, .int 0, .int 0]))]) (k_rV (X := [(b, .inr (0, [.null, .int 0, .int 0, .int 0]))]) (As := []) (rest := []) (c_isL l k hE a v cap cnt ml f) E (ji_J0_1047.cw E ⟨by decide, by decide⟩) dJ0_init_db425_16 (va_recv E.hK hW.1 (q := (RJ4, TJ4, 4)) (ci := 1) rfl (q0 := 1) rfl) hW hA hl rfl ⟨by decide, by decide⟩ (Nat.le_of_ble_eq_true rfl)) E hW hA (fun r u H locs hp hW => ?_)
  subst hp
  refine lv_if_eq (tgt := 41) E.hx E.hb dJ0_init_db425_19 (by decide) (fun hc => absurd hc (by decide)) (fun hc => ?_)
  refine k_aload_n E hl 2 dJ0_init_db425_22 rfl ?_
  refine lv_iconst (v := (0 : Int32)) E.hx E.hb dJ0_init_db425_23 ic_0 ?_
  refine pf_J0_15 (ws2 := [(b, .inr (0, [.null, .int 0, .int 0, .int 0]))] ++ wSB k a v cap ml cnt f) E hW 0 rfl hnm rfl rfl (Nat.le_of_ble_eq_true rfl) dJ0_init_db425_24 rfl (fun H locs hW => ?_)
  refine k_aload_n E hl 2 dJ0_init_db425_27 rfl ?_
  refine k_aload_n E hl 1 dJ0_init_db425_28 rfl ?_
  refine lv_iconst (v := (0 : Int32)) E.hx E.hb dJ0_init_db425_29 ic_0 ?_
  refine k_iload E hl 0 dJ0_init_db425_30 rfl ?_
  have hW : WD k A s.heap (([(b, .inr (0, [.null, .int 0, .int 0, .int 0]))] ++ [(a, .inr (1, [.ref v, .int 0, .int ml, .int (nI cnt)]))]) ++ [(v, .inl (k.2.1.1 2, cap, .inl f))]) H locs := hW
  refine k_finw (X := ([(b, .inr (0, [.null, .int 0, .int 0, .int 0]))] ++ [(a, .inr (1, [.ref v, .int 0, .int ml, .int (nI cnt)]))])) (k_rS (X := ([(b, .inr (0, [.null, .int 0, .int 0, .int 0]))] ++ [(a, .inr (1, [.ref v, .int 0, .int ml, .int (nI cnt)]))])) (As := [.ref v, .int (0 : Int32), .int (nI cnt)]) (rest := [.ref b]) (c_cor l k v cap cnt f hf hcap h2) E sl_J0_54 dJ0_init_db425_32 hW hA hl rfl ⟨by decide, by decide⟩ ⟨by decide, by first | decide | exact Nat.le_of_ble_eq_true rfl | exact Nat.le_refl _ | (simp; omega) | simp | omega⟩ (Nat.le_of_ble_eq_true rfl)) E hW hA (fun r u H locs hp hW => ?_)
  obtain ⟨g0, g1, g2⟩ := hp
  subst g0
  refine pf_J0_9 (ws2 := ([(b, .inr (0, [.ref u.1, .int 0, .int 0, .int 0]))] ++ [(a, .inr (1, [.ref v, .int 0, .int ml, .int (nI cnt)]))]) ++ [(v, .inl (k.2.1.1 2, cap, .inl f)), (u.1, .inl (k.2.1.1 2, cnt, .inl u.2))]) E hW 0 rfl hnm rfl rfl (Nat.le_of_ble_eq_true rfl) dJ0_init_db425_35 rfl (fun H locs hW => ?_)
  refine lv_goto (tgt := 97) E.hx E.hb dJ0_init_db425_38 (by decide) ?_
  exact hret u _ _ _ _ _ _ hW ⟨g1, g2⟩ (by first | decide | exact Nat.le_of_ble_eq_true rfl | exact Nat.le_refl _ | (simp; omega) | simp | omega) (by first | decide | exact Nat.le_of_ble_eq_true rfl | exact Nat.le_refl _ | (simp; omega) | simp | omega) dJ0_init_db425_97

theorem dJ0_init_81219_0 : decode cJ0_init_81219 0 = .ok (.aload_n 0, 1) := by decide +kernel
theorem dJ0_init_81219_1 : decode cJ0_init_81219 1 = .ok (.aload_n 1, 1) := by decide +kernel
theorem dJ0_init_81219_2 : decode cJ0_init_81219 2 = .ok (.aconst_null, 1) := by decide +kernel
theorem dJ0_init_81219_3 : decode cJ0_init_81219 3 = .ok (.invokespecial 489, 3) := by decide +kernel
theorem dJ0_init_81219_6 : decode cJ0_init_81219 6 = .ok (.return_, 1) := by decide +kernel
set_option maxHeartbeats 4000000 in
set_option maxRecDepth 100000 in
theorem c_si2 (l : Launch) (k : KT) (hE : EH k) (b a v cap cnt : Nat) (ml : Int32) (f : Nat → Int32) (hf : sb_Fit f) (hcap : cnt ≤ cap) (h2 : cap ≤ 602) : CG l k yJ0_init_81219 cJ0_init_81219 2 none 4 1 602 96 [.ref b, .ref a] ([(b, .inr (0, [.null, .int 0, .int 0, .int 0]))] ++ wSB k a v cap ml cnt f) (Qv k (fun u : Nat × (Nat → Int32) => [(b, .inr (0, [.ref u.1, .int 0, .int 0, .int 0]))] ++ [(a, .inr (1, [.ref v, .int 0, .int ml, .int (nI cnt)])), (v, .inl (k.2.1.1 2, cap, .inl f)), (u.1, .inl (k.2.1.1 2, cnt, .inl u.2))]) (fun u : Nat × (Nat → Int32) => sb_Fit u.2 ∧ ∀ j, j < cnt → u.2 j = f j)) := by
  refine CG.ofV (by decide) (Nat.le_of_ble_eq_true rfl) (fun p e s m args below meth c A Q E hnm hW hA hret ls hl => ?_)
  have hl : lv_has ls 2 [(0, .ref b), (1, .ref a)] := hl
  refine k_aload_n E hl 0 dJ0_init_81219_0 rfl ?_
  refine k_aload_n E hl 1 dJ0_init_81219_1 rfl ?_
  refine lv_null E.hx E.hb dJ0_init_81219_2 ?_
  refine k_finv (X := []) (k_rI (X := []) (As := [.ref a, .null]) (rest := []) (c_si3 l k hE b a v cap cnt ml f hf hcap h2) E il_J0_489 dJ0_init_81219_3 hW hA hl rfl ⟨by decide, by decide⟩ ⟨by decide, by first | decide | exact Nat.le_of_ble_eq_true rfl | exact Nat.le_refl _ | (simp; omega) | simp | omega⟩ (Nat.le_of_ble_eq_true rfl)) E hW hA (fun u H locs hp hW => ?_)
  exact hret u _ _ _ _ _ _ hW hp (by first | decide | exact Nat.le_of_ble_eq_true rfl | exact Nat.le_refl _ | (simp; omega) | simp | omega) (by first | decide | exact Nat.le_of_ble_eq_true rfl | exact Nat.le_refl _ | (simp; omega) | simp | omega) dJ0_init_81219_6

theorem dJ4_toString_0e30d_0 : decode cJ4_toString_0e30d 0 = .ok (.new 18, 3) := by decide +kernel
theorem dJ4_toString_0e30d_3 : decode cJ4_toString_0e30d 3 = .ok (.dup, 1) := by decide +kernel
theorem dJ4_toString_0e30d_4 : decode cJ4_toString_0e30d 4 = .ok (.aload_n 0, 1) := by decide +kernel
theorem dJ4_toString_0e30d_5 : decode cJ4_toString_0e30d 5 = .ok (.invokespecial 137, 3) := by decide +kernel
theorem dJ4_toString_0e30d_8 : decode cJ4_toString_0e30d 8 = .ok (.areturn, 1) := by decide +kernel
set_option maxHeartbeats 4000000 in
set_option maxRecDepth 100000 in
theorem c_toS (l : Launch) (k : KT) (hE : EH k) (a : Nat) (l9 : List Nat) (ws : va_W) (hw : SW k a l9 ws) : CG l k yJ4_toString_0e30d cJ4_toString_0e30d 1 (some (.object "java/lang/String")) 5 2 606 117 [.ref a] (ws) (Qw k (fun u : Nat × Nat × (Nat → Int32) => wStr k u.1 u.2.1 l9.length u.2.2) (fun (r : Nat) (u : Nat × Nat × (Nat → Int32)) => u.1 = r ∧ sb_Lat (tx l9) l9.length u.2.2 ∧ sb_Fit u.2.2)) := by
  obtain ⟨v, cap, ml, f, rfl, hS⟩ := hw
  refine CG.ofW (by decide) (Nat.le_of_ble_eq_true rfl) (fun p e s m args below meth c A Q E hnm hW hA hret ls hl => ?_)
  have hl : lv_has ls 1 [(0, .ref a)] := hl
  refine nw_J4_18 E hW hA (by decide) (by first | decide | exact Nat.le_of_ble_eq_true rfl | exact Nat.le_refl _ | (simp; omega) | simp | omega) dJ4_toString_0e30d_0 (fun b H hW => ?_)
  refine lv_dup E.hx E.hb dJ4_toString_0e30d_3 rfl ?_
  refine k_aload_n E hl 0 dJ4_toString_0e30d_4 rfl ?_
  have hW : WD k A s.heap ([(b, .inr (0, [.null, .int 0, .int 0, .int 0]))] ++ wSB k a v cap ml l9.length f) H _ := hW.comm
  refine k_finv (X := []) (k_rI (X := []) (As := [.ref a]) (rest := [.ref b]) (c_si2 l k hE b a v cap l9.length ml f hS.2.2.2 hS.1 hS.2.1) E il_J4_137 dJ4_toString_0e30d_5 hW hA hl rfl ⟨by decide, by decide⟩ ⟨by decide, by first | decide | exact Nat.le_of_ble_eq_true rfl | exact Nat.le_refl _ | (simp; omega) | simp | omega⟩ (Nat.le_of_ble_eq_true rfl)) E hW hA (fun u H locs hp hW => ?_)
  exact hret b (b, u.1, u.2) _ _ _ _ _ _ (hW.sub [0, 3] rfl rfl rfl) ⟨rfl, sb_latKeep hS.2.2.1 hp.2, hp.1⟩ (by first | decide | exact Nat.le_of_ble_eq_true rfl | exact Nat.le_refl _ | (simp; omega) | simp | omega) (by first | decide | exact Nat.le_of_ble_eq_true rfl | exact Nat.le_refl _ | (simp; omega) | simp | omega) dJ4_toString_0e30d_8
