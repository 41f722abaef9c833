theorem dJ5_inflateIfNeededFor_a7421_0 : decode cJ5_inflateIfNeededFor_a7421 0 = .ok (.getstatic 18, 3) := by decide +kernel
theorem dJ5_inflateIfNeededFor_a7421_3 : decode cJ5_inflateIfNeededFor_a7421 3 = .ok (.ifCond .eq 18, 3) := by decide +kernel
theorem dJ5_inflateIfNeededFor_a7421_6 : decode cJ5_inflateIfNeededFor_a7421 6 = .ok (.aload_n 0, 1) := by decide +kernel
theorem dJ5_inflateIfNeededFor_a7421_7 : decode cJ5_inflateIfNeededFor_a7421 7 = .ok (.getfield 22, 3) := by decide +kernel
theorem dJ5_inflateIfNeededFor_a7421_10 : decode cJ5_inflateIfNeededFor_a7421 10 = .ok (.aload_n 1, 1) := by decide +kernel
theorem dJ5_inflateIfNeededFor_a7421_11 : decode cJ5_inflateIfNeededFor_a7421 11 = .ok (.invokevirtual 40, 3) := by decide +kernel
theorem dJ5_inflateIfNeededFor_a7421_14 : decode cJ5_inflateIfNeededFor_a7421 14 = .ok (.if_icmp .eq 7, 3) := by decide +kernel
theorem dJ5_inflateIfNeededFor_a7421_17 : decode cJ5_inflateIfNeededFor_a7421 17 = .ok (.aload_n 0, 1) := by decide +kernel
theorem dJ5_inflateIfNeededFor_a7421_18 : decode cJ5_inflateIfNeededFor_a7421 18 = .ok (.invokevirtual 195, 3) := by decide +kernel
theorem dJ5_inflateIfNeededFor_a7421_21 : decode cJ5_inflateIfNeededFor_a7421 21 = .ok (.return_, 1) := by decide +kernel
set_option maxHeartbeats 4000000 in
set_option maxRecDepth 100000 in
theorem c_inf (l : Launch) (k : KT) (hE : EH k) (a v cap cnt : Nat) (ml : Int32) (f : Nat → Int32) (x : Int32) (hin : sIn x) : CG l k yJ5_inflateIfNeededFor_a7421 cJ5_inflateIfNeededFor_a7421 2 none 1 0 0 20 [.ref a, .ref (strAd k x)] (wSB k a v cap ml cnt f) (Qv k (fun u : Unit => wSB k a v cap ml cnt f) (fun u : Unit => True)) := by
  refine CG.ofV (by decide) (Nat.le_of_ble_eq_true rfl) (fun p e s m args below meth c A Q E hnm hW hA hret ls hl => ?_)
  have hl : lv_has ls 2 [(0, .ref a), (1, .ref (strAd k x))] := hl
  refine va_gets E.hx E.hb (hE.at E).2.2.2.2.2.2.2.2.2.2.2.2.1 hW.2.2 E.ho (E.w tm_955 rfl) (fun _ h => h) dJ5_inflateIfNeededFor_a7421_0 ?_
  refine lv_if_eq (tgt := 21) E.hx E.hb dJ5_inflateIfNeededFor_a7421_3 (by decide) (fun hc => absurd hc (by decide)) (fun hc => ?_)
  refine k_aload_n E hl 0 dJ5_inflateIfNeededFor_a7421_6 rfl ?_
  refine gf_J5_22 E hW 0 rfl rfl dJ5_inflateIfNeededFor_a7421_7 ?_
  refine k_aload_n E hl 1 dJ5_inflateIfNeededFor_a7421_10 rfl ?_
  refine k_callO (As := []) (rest := [.int 0]) (c_coder l k hE x hin) E vl_J5_40 (strF hE E hin).1 dJ5_inflateIfNeededFor_a7421_11 rfl hW hA hl rfl ⟨by decide, by decide⟩ ⟨by decide, by decide⟩ (Nat.le_of_ble_eq_true rfl) (fun r H locs hp hW => ?_)
  subst hp
  refine lv_icmp_eq (tgt := 21) E.hx E.hb dJ5_inflateIfNeededFor_a7421_14 (by decide) (fun hc => ?_) (fun hc => absurd rfl hc)
  exact hret () _ _ _ _ _ _ hW trivial (by decide) (by decide) dJ5_inflateIfNeededFor_a7421_21

theorem dJ0_getBytes_840e7_0 : decode cJ0_getBytes_840e7 0 = .ok (.aload_n 0, 1) := by decide +kernel
theorem dJ0_getBytes_840e7_1 : decode cJ0_getBytes_840e7 1 = .ok (.invokevirtual 335, 3) := by decide +kernel
theorem dJ0_getBytes_840e7_4 : decode cJ0_getBytes_840e7 4 = .ok (.iload_n 3, 1) := by decide +kernel
theorem dJ0_getBytes_840e7_5 : decode cJ0_getBytes_840e7 5 = .ok (.if_icmp .ne 23, 3) := by decide +kernel
theorem dJ0_getBytes_840e7_8 : decode cJ0_getBytes_840e7 8 = .ok (.aload_n 0, 1) := by decide +kernel
theorem dJ0_getBytes_840e7_9 : decode cJ0_getBytes_840e7 9 = .ok (.getfield 9, 3) := by decide +kernel
theorem dJ0_getBytes_840e7_12 : decode cJ0_getBytes_840e7 12 = .ok (.iconst 0, 1) := by decide +kernel
theorem dJ0_getBytes_840e7_13 : decode cJ0_getBytes_840e7 13 = .ok (.aload_n 1, 1) := by decide +kernel
theorem dJ0_getBytes_840e7_14 : decode cJ0_getBytes_840e7 14 = .ok (.iload_n 2, 1) := by decide +kernel
theorem dJ0_getBytes_840e7_15 : decode cJ0_getBytes_840e7 15 = .ok (.iload_n 3, 1) := by decide +kernel
theorem dJ0_getBytes_840e7_16 : decode cJ0_getBytes_840e7 16 = .ok (.ishl, 1) := by decide +kernel
theorem dJ0_getBytes_840e7_17 : decode cJ0_getBytes_840e7 17 = .ok (.aload_n 0, 1) := by decide +kernel
theorem dJ0_getBytes_840e7_18 : decode cJ0_getBytes_840e7 18 = .ok (.getfield 9, 3) := by decide +kernel
theorem dJ0_getBytes_840e7_21 : decode cJ0_getBytes_840e7 21 = .ok (.arraylength, 1) := by decide +kernel
theorem dJ0_getBytes_840e7_22 : decode cJ0_getBytes_840e7 22 = .ok (.invokestatic 212, 3) := by decide +kernel
theorem dJ0_getBytes_840e7_25 : decode cJ0_getBytes_840e7 25 = .ok (.goto 18, 3) := by decide +kernel
theorem dJ0_getBytes_840e7_28 : decode cJ0_getBytes_840e7 28 = .ok (.aload_n 0, 1) := by decide +kernel
theorem dJ0_getBytes_840e7_29 : decode cJ0_getBytes_840e7 29 = .ok (.getfield 9, 3) := by decide +kernel
theorem dJ0_getBytes_840e7_32 : decode cJ0_getBytes_840e7 32 = .ok (.iconst 0, 1) := by decide +kernel
theorem dJ0_getBytes_840e7_33 : decode cJ0_getBytes_840e7 33 = .ok (.aload_n 1, 1) := by decide +kernel
theorem dJ0_getBytes_840e7_34 : decode cJ0_getBytes_840e7 34 = .ok (.iload_n 2, 1) := by decide +kernel
theorem dJ0_getBytes_840e7_35 : decode cJ0_getBytes_840e7 35 = .ok (.aload_n 0, 1) := by decide +kernel
theorem dJ0_getBytes_840e7_36 : decode cJ0_getBytes_840e7 36 = .ok (.getfield 9, 3) := by decide +kernel
theorem dJ0_getBytes_840e7_39 : decode cJ0_getBytes_840e7 39 = .ok (.arraylength, 1) := by decide +kernel
theorem dJ0_getBytes_840e7_40 : decode cJ0_getBytes_840e7 40 = .ok (.invokestatic 106, 3) := by decide +kernel
theorem dJ0_getBytes_840e7_43 : decode cJ0_getBytes_840e7 43 = .ok (.return_, 1) := by decide +kernel
set_option maxHeartbeats 4000000 in
set_option maxRecDepth 100000 in
theorem c_gb (l : Launch) (k : KT) (hE : EH k) (v cap i : Nat) (f : Nat → Int32) (hcap : cap ≤ 602) (x : Int32) (hin : sIn x) (hi : i + sLenL.getD x.toNatClampNeg 0 ≤ cap) : CG l k yJ0_getBytes_840e7 cJ0_getBytes_840e7 4 none 1 0 0 26 [.ref (strAd k x), .ref v, .int (nI i), .int (0 : Int32)] ([(v, .inl (k.2.1.1 2, cap, .inl f))]) (Qv k (fun u : Unit => [(v, .inl (k.2.1.1 2, cap, .inl (va_cpy (fun j => (sBytL.getD x.toNatClampNeg []).getD j 0) f 0 i (sLenL.getD x.toNatClampNeg 0))))]) (fun u : Unit => True)) := by
  refine CG.ofV (by decide) (Nat.le_of_ble_eq_true rfl) (fun p e s m args below meth c A Q E hnm hW hA hret ls hl => ?_)
  have hl : lv_has ls 4 [(0, .ref (strAd k x)), (1, .ref v), (2, .int (nI i)), (3, .int (0 : Int32))] := hl
  obtain ⟨h1, h2, h3, h4⟩ := strF hE E hin
  refine k_aload_n E hl 0 dJ0_getBytes_840e7_0 rfl ?_
  refine k_callO (As := []) (rest := []) (c_coder l k hE x hin) E vl_J0_335 h1 dJ0_getBytes_840e7_1 rfl hW hA hl rfl ⟨by decide, by decide⟩ ⟨by decide, by decide⟩ (Nat.le_of_ble_eq_true rfl) (fun r H locs hp hW => ?_)
  subst hp
  refine k_iload_n E hl 3 dJ0_getBytes_840e7_4 rfl ?_
  refine lv_icmp_ne (tgt := 28) E.hx E.hb dJ0_getBytes_840e7_5 (by decide) (fun hc => absurd rfl hc) (fun hc => ?_)
  refine k_aload_n E hl 0 dJ0_getBytes_840e7_8 rfl ?_
  refine vk_getf E.hx E.hb h3 hW.2.2 E.ho (E.w tm_1110 rfl) (fun _ h => h) dJ0_getBytes_840e7_9 ?_
  refine lv_iconst (v := (0 : Int32)) E.hx E.hb dJ0_getBytes_840e7_12 ic_0 ?_
  refine k_aload_n E hl 1 dJ0_getBytes_840e7_13 rfl ?_
  refine k_iload_n E hl 2 dJ0_getBytes_840e7_14 rfl ?_
  refine k_iload_n E hl 3 dJ0_getBytes_840e7_15 rfl ?_
  refine lv_ishl E.hx E.hb dJ0_getBytes_840e7_16 ?_
  refine k_topi (y := (nI i)) (sb_shl0 _).symm ?_
  refine k_aload_n E hl 0 dJ0_getBytes_840e7_17 rfl ?_
  refine vk_getf E.hx E.hb h3 hW.2.2 E.ho (E.w tm_1110 rfl) (fun _ h => h) dJ0_getBytes_840e7_18 ?_
  refine va_tlen (v := sLen x) E.hx E.hb h4 hW.2.2 rfl dJ0_getBytes_840e7_21 ?_
  refine vk_copyt E.hx E.hb (E.hml.trans hl.1.symm) E.ho (E.w tm_1002 rfl) (E.w tm_531 rfl) (E.w tm_530 rfl) (E.w tm_49 rfl) E.hK hW.1 hW.2.1 hW.2.2 h4 0 2 rfl rfl (by decide) (nI_pos (by omega)) (nI_pos (sLen_lt _)) (by rw [show sLen x = nI (sLenL.getD x.toNatClampNeg 0) from rfl, nI_clamp (sLen_lt _)]; show 0 + _ ≤ _; omega) (by rw [show sLen x = nI (sLenL.getD x.toNatClampNeg 0) from rfl, nI_clamp (sLen_lt _), nI_clamp (by omega)]; exact hi) (fun j hj => sByt_fit _ _) (by decide) (Nat.le_of_ble_eq_true rfl) dJ0_getBytes_840e7_22 (fun H locs g1 g2 g3 => ?_)
  have hW : WD k A s.heap ([(v, .inl (k.2.1.1 2, cap, .inl (va_cpy (fun j => (sBytL.getD x.toNatClampNeg []).getD j 0) f 0 i (sLenL.getD x.toNatClampNeg 0))))]) H locs := by
    have e1 : (nI i).toNatClampNeg = i := nI_clamp (by omega)
    have e2 : (sLen x).toNatClampNeg = sLenL.getD x.toNatClampNeg 0 := nI_clamp (sLen_lt _)
    rw [show va_cpy (fun j => (sBytL.getD x.toNatClampNeg []).getD j 0) f 0 i (sLenL.getD x.toNatClampNeg 0) = va_cpy (fun j => (sBytL.getD x.toNatClampNeg []).getD j 0) f (0 : Int32).toNatClampNeg (nI i).toNatClampNeg (sLen x).toNatClampNeg by rw [e1, e2]; rfl]
    exact ⟨g1, g2, g3⟩
  refine lv_goto (tgt := 43) E.hx E.hb dJ0_getBytes_840e7_25 (by decide) ?_
  exact hret () _ _ _ _ _ _ hW trivial (by decide) (by decide) dJ0_getBytes_840e7_43

theorem dJ5_putStringAt_47b60_0 : decode cJ5_putStringAt_47b60 0 = .ok (.aload_n 0, 1) := by decide +kernel
theorem dJ5_putStringAt_47b60_1 : decode cJ5_putStringAt_47b60 1 = .ok (.aload_n 2, 1) := by decide +kernel
theorem dJ5_putStringAt_47b60_2 : decode cJ5_putStringAt_47b60 2 = .ok (.invokevirtual 397, 3) := by decide +kernel
theorem dJ5_putStringAt_47b60_5 : decode cJ5_putStringAt_47b60 5 = .ok (.aload_n 2, 1) := by decide +kernel
theorem dJ5_putStringAt_47b60_6 : decode cJ5_putStringAt_47b60 6 = .ok (.aload_n 0, 1) := by decide +kernel
theorem dJ5_putStringAt_47b60_7 : decode cJ5_putStringAt_47b60 7 = .ok (.getfield 15, 3) := by decide +kernel
theorem dJ5_putStringAt_47b60_10 : decode cJ5_putStringAt_47b60 10 = .ok (.iload_n 1, 1) := by decide +kernel
theorem dJ5_putStringAt_47b60_11 : decode cJ5_putStringAt_47b60 11 = .ok (.aload_n 0, 1) := by decide +kernel
theorem dJ5_putStringAt_47b60_12 : decode cJ5_putStringAt_47b60 12 = .ok (.getfield 22, 3) := by decide +kernel
theorem dJ5_putStringAt_47b60_15 : decode cJ5_putStringAt_47b60 15 = .ok (.invokevirtual 399, 3) := by decide +kernel
theorem dJ5_putStringAt_47b60_18 : decode cJ5_putStringAt_47b60 18 = .ok (.return_, 1) := by decide +kernel
set_option maxHeartbeats 4000000 in
set_option maxRecDepth 100000 in
theorem c_put (l : Launch) (k : KT) (hE : EH k) (a v cap cnt i : Nat) (ml : Int32) (f : Nat → Int32) (hcap : cap ≤ 602) (x : Int32) (hin : sIn x) (hi : i + sLenL.getD x.toNatClampNeg 0 ≤ cap) : CG l k yJ5_putStringAt_47b60 cJ5_putStringAt_47b60 3 none 2 0 0 49 [.ref a, .int (nI i), .ref (strAd k x)] (wSB k a v cap ml cnt f) (Qv k (fun u : Unit => wSB k a v cap ml cnt (va_cpy (fun j => (sBytL.getD x.toNatClampNeg []).getD j 0) f 0 i (sLenL.getD x.toNatClampNeg 0))) (fun u : Unit => True)) := by
  refine CG.ofV (by decide) (Nat.le_of_ble_eq_true rfl) (fun p e s m args below meth c A Q E hnm hW hA hret ls hl => ?_)
  have hl : lv_has ls 3 [(0, .ref a), (1, .int (nI i)), (2, .ref (strAd k x))] := hl
  refine k_aload_n E hl 0 dJ5_putStringAt_47b60_0 rfl ?_
  refine k_aload_n E hl 2 dJ5_putStringAt_47b60_1 rfl ?_
  refine k_finv (X := []) (k_rV (X := []) (As := [.ref (strAd k x)]) (rest := []) (c_inf l k hE a v cap cnt ml f x hin) E (jp_J5_397.cw hE E ⟨by decide, by decide⟩) dJ5_putStringAt_47b60_2 (va_recv E.hK hW.1 (q := (RJ4, TJ4, 4)) (ci := 1) rfl (q0 := 0) rfl) hW hA hl rfl ⟨by decide, by decide⟩ (Nat.le_of_ble_eq_true rfl)) E hW hA (fun u H locs hp hW => ?_)
  have hW : WD k A s.heap ([(a, .inr (1, [.ref v, .int 0, .int ml, .int (nI cnt)]))] ++ [(v, .inl (k.2.1.1 2, cap, .inl f))]) H locs := hW
  refine k_aload_n E hl 2 dJ5_putStringAt_47b60_5 rfl ?_
  refine k_aload_n E hl 0 dJ5_putStringAt_47b60_6 rfl ?_
  refine gf_J5_15 E hW 0 rfl rfl dJ5_putStringAt_47b60_7 ?_
  refine k_iload_n E hl 1 dJ5_putStringAt_47b60_10 rfl ?_
  refine k_aload_n E hl 0 dJ5_putStringAt_47b60_11 rfl ?_
  refine gf_J5_22 E hW 0 rfl rfl dJ5_putStringAt_47b60_12 ?_
  obtain ⟨cb, o1, o2, o3, o4⟩ := (strF hE E hin).1
  refine k_finv (X := [(a, .inr (1, [.ref v, .int 0, .int ml, .int (nI cnt)]))]) (k_rV (X := [(a, .inr (1, [.ref v, .int 0, .int ml, .int (nI cnt)]))]) (As := [.ref v, .int (nI i), .int (0 : Int32)]) (rest := []) (c_gb l k hE v cap i f hcap x hin hi) E (vl_J5_399.cw E ⟨by decide, by decide⟩) dJ5_putStringAt_47b60_15 ⟨cb, (hW.2.2.2.1 _ (Array.getElem?_eq_some_iff.mp o1).1 o4).trans o1, o2, o3⟩ hW hA hl rfl ⟨by decide, by decide⟩ (Nat.le_of_ble_eq_true rfl)) E hW hA (fun u H locs hp hW => ?_)
  exact hret () _ _ _ _ _ _ hW trivial (by decide) (by decide) dJ5_putStringAt_47b60_18

theorem dJ5_append_cf1ce_0 : decode cJ5_append_cf1ce 0 = .ok (.aload_n 1, 1) := by decide +kernel
theorem dJ5_append_cf1ce_1 : decode cJ5_append_cf1ce 1 = .ok (.ifnonnull 8, 3) := by decide +kernel
theorem dJ5_append_cf1ce_4 : decode cJ5_append_cf1ce 4 = .ok (.aload_n 0, 1) := by decide +kernel
theorem dJ5_append_cf1ce_5 : decode cJ5_append_cf1ce 5 = .ok (.invokevirtual 204, 3) := by decide +kernel
theorem dJ5_append_cf1ce_8 : decode cJ5_append_cf1ce 8 = .ok (.areturn, 1) := by decide +kernel
theorem dJ5_append_cf1ce_9 : decode cJ5_append_cf1ce 9 = .ok (.aload_n 1, 1) := by decide +kernel
theorem dJ5_append_cf1ce_10 : decode cJ5_append_cf1ce 10 = .ok (.invokevirtual 32, 3) := by decide +kernel
theorem dJ5_append_cf1ce_13 : decode cJ5_append_cf1ce 13 = .ok (.istore_n 2, 1) := by decide +kernel
theorem dJ5_append_cf1ce_14 : decode cJ5_append_cf1ce 14 = .ok (.aload_n 0, 1) := by decide +kernel
theorem dJ5_append_cf1ce_15 : decode cJ5_append_cf1ce 15 = .ok (.aload_n 0, 1) := by decide +kernel
theorem dJ5_append_cf1ce_16 : decode cJ5_append_cf1ce 16 = .ok (.getfield 79, 3) := by decide +kernel
theorem dJ5_append_cf1ce_19 : decode cJ5_append_cf1ce 19 = .ok (.iload_n 2, 1) := by decide +kernel
theorem dJ5_append_cf1ce_20 : decode cJ5_append_cf1ce 20 = .ok (.iadd, 1) := by decide +kernel
theorem dJ5_append_cf1ce_21 : decode cJ5_append_cf1ce 21 = .ok (.invokevirtual 100, 3) := by decide +kernel
theorem dJ5_append_cf1ce_24 : decode cJ5_append_cf1ce 24 = .ok (.aload_n 0, 1) := by decide +kernel
theorem dJ5_append_cf1ce_25 : decode cJ5_append_cf1ce 25 = .ok (.aload_n 0, 1) := by decide +kernel
theorem dJ5_append_cf1ce_26 : decode cJ5_append_cf1ce 26 = .ok (.getfield 79, 3) := by decide +kernel
theorem dJ5_append_cf1ce_29 : decode cJ5_append_cf1ce 29 = .ok (.aload_n 1, 1) := by decide +kernel
theorem dJ5_append_cf1ce_30 : decode cJ5_append_cf1ce 30 = .ok (.invokevirtual 208, 3) := by decide +kernel
theorem dJ5_append_cf1ce_33 : decode cJ5_append_cf1ce 33 = .ok (.aload_n 0, 1) := by decide +kernel
theorem dJ5_append_cf1ce_34 : decode cJ5_append_cf1ce 34 = .ok (.dup, 1) := by decide +kernel
theorem dJ5_append_cf1ce_35 : decode cJ5_append_cf1ce 35 = .ok (.getfield 79, 3) := by decide +kernel
theorem dJ5_append_cf1ce_38 : decode cJ5_append_cf1ce 38 = .ok (.iload_n 2, 1) := by decide +kernel
theorem dJ5_append_cf1ce_39 : decode cJ5_append_cf1ce 39 = .ok (.iadd, 1) := by decide +kernel
theorem dJ5_append_cf1ce_40 : decode cJ5_append_cf1ce 40 = .ok (.putfield 79, 3) := by decide +kernel
theorem dJ5_append_cf1ce_43 : decode cJ5_append_cf1ce 43 = .ok (.aload_n 0, 1) := by decide +kernel
theorem dJ5_append_cf1ce_44 : decode cJ5_append_cf1ce 44 = .ok (.areturn, 1) := by decide +kernel
set_option maxHeartbeats 4000000 in
set_option maxRecDepth 100000 in
theorem c_apS5 (l : Launch) (k : KT) (hE : EH k) (t : Nat → Nat) (a v cap cnt : Nat) (ml : Int32) (f : Nat → Int32) (hS : SBo t cnt cap f) (x : Int32) (hin : sIn x) (hq : cnt + sLenL.getD x.toNatClampNeg 0 ≤ 300) : CG l k yJ5_append_cf1ce cJ5_append_cf1ce 3 (some (.object "java/lang/AbstractStringBuilder")) 4 1 700 92 [.ref a, .ref (strAd k x)] (wSB k a v cap ml cnt f) (Qw k (fun u : Nat × Nat × (Nat → Int32) => wSB k a u.1 u.2.1 ml (cnt + sLenL.getD x.toNatClampNeg 0) u.2.2) (fun (r : Nat) (u : Nat × Nat × (Nat → Int32)) => r = a ∧ SBo (sb_cat t cnt (sTx x)) (cnt + sLenL.getD x.toNatClampNeg 0) u.2.1 u.2.2)) := by
  refine CG.ofW (by decide) (Nat.le_of_ble_eq_true rfl) (fun p e s m args below meth c A Q E hnm hW hA hret ls hl => ?_)
  have hl : lv_has ls 3 [(0, .ref a), (1, .ref (strAd k x))] := hl
  refine k_aload_n E hl 1 dJ5_append_cf1ce_0 rfl ?_
  refine lv_ifnonnull (tgt := 9) E.hx E.hb dJ5_append_cf1ce_1 (by decide) ?_
  refine k_aload_n E hl 1 dJ5_append_cf1ce_9 rfl ?_
  refine k_callO (As := []) (rest := []) (c_slen l k hE x hin) E vl_J5_32 (strF hE E hin).1 dJ5_append_cf1ce_10 rfl hW hA hl rfl ⟨by decide, by decide⟩ ⟨by decide, by decide⟩ (Nat.le_of_ble_eq_true rfl) (fun r H locs hp hW => ?_)
  subst hp
  obtain ⟨wd, ewd⟩ : ∃ wd, wd = sLenL.getD x.toNatClampNeg 0 := ⟨_, rfl⟩
  refine k_topi (y := nI wd) (by rw [ewd]; rfl) ?_
  refine k_istore_n (lv' := [(2, .int (nI wd)), (0, .ref a), (1, .ref (strAd k x))]) E rfl hl dJ5_append_cf1ce_13 rfl (by decide) rfl (fun ls hl => ?_)
  refine k_aload_n E hl 1 dJ5_append_cf1ce_14 rfl ?_
  refine k_aload_n E hl 1 dJ5_append_cf1ce_15 rfl ?_
  refine gf_J5_79 E hW 0 rfl rfl dJ5_append_cf1ce_16 ?_
  refine k_iload_n E hl 0 dJ5_append_cf1ce_19 rfl ?_
  refine lv_iadd E.hx E.hb dJ5_append_cf1ce_20 ?_
  refine k_topi (y := (nI (cnt + wd))) ((nI_add cnt wd).symm) ?_
  refine k_finv (X := []) (k_rV (X := []) (As := [.int (nI (cnt + wd))]) (rest := []) (c_ens l k hE a v cap cnt (cnt + wd) ml f hS.2.2.2 (by omega) hS.2.1) E (jp_J5_100.cw hE E ⟨by decide, by decide⟩) dJ5_append_cf1ce_21 (va_recv E.hK hW.1 (q := (RJ4, TJ4, 4)) (ci := 1) rfl (q0 := 0) rfl) hW hA hl rfl ⟨by decide, by decide⟩ (Nat.le_of_ble_eq_true rfl)) E hW hA (fun u H locs hp hW => ?_)
  obtain ⟨v1, cap1, f1⟩ := u
  obtain ⟨g1, g2, g3, g4, g5⟩ := hp
  dsimp only at g1 g2 g3 g4 g5
  have hW : WD k A s.heap (wSB k a v1 cap1 ml cnt f1) H locs := hW
  refine k_aload_n E hl 1 dJ5_append_cf1ce_24 rfl ?_
  refine k_aload_n E hl 1 dJ5_append_cf1ce_25 rfl ?_
  refine gf_J5_79 E hW 0 rfl rfl dJ5_append_cf1ce_26 ?_
  refine k_aload_n E hl 2 dJ5_append_cf1ce_29 rfl ?_
  refine k_finv (X := []) (k_rV (X := []) (As := [.int (nI cnt), .ref (strAd k x)]) (rest := []) (c_put l k hE a v1 cap1 cnt cnt ml f1 g3 x hin (by rw [← ewd]; exact g1)) E (jp_J5_208.cw hE E ⟨by decide, by decide⟩) dJ5_append_cf1ce_30 (va_recv E.hK hW.1 (q := (RJ4, TJ4, 4)) (ci := 1) rfl (q0 := 0) rfl) hW hA hl rfl ⟨by decide, by decide⟩ (Nat.le_of_ble_eq_true rfl)) E hW hA (fun u H locs hp hW => ?_)
  obtain ⟨f2, ef2⟩ : ∃ f2, f2 = va_cpy (fun j => (sBytL.getD x.toNatClampNeg []).getD j 0) f1 0 cnt (sLenL.getD x.toNatClampNeg 0) := ⟨_, rfl⟩
  have hW : WD k A s.heap (wSB k a v1 cap1 ml cnt f2) H locs := by rw [ef2]; exact hW
  refine k_aload_n E hl 1 dJ5_append_cf1ce_33 rfl ?_
  refine lv_dup E.hx E.hb dJ5_append_cf1ce_34 rfl ?_
  refine gf_J5_79 E hW 0 rfl rfl dJ5_append_cf1ce_35 ?_
  refine k_iload_n E hl 0 dJ5_append_cf1ce_38 rfl ?_
  refine lv_iadd E.hx E.hb dJ5_append_cf1ce_39 ?_
  refine k_topi (y := (nI (cnt + wd))) ((nI_add cnt wd).symm) ?_
  refine pf_J5_79 (ws2 := wSB k a v1 cap1 ml (cnt + wd) f2) E hW 0 rfl rfl rfl (Nat.le_of_ble_eq_true rfl) dJ5_append_cf1ce_40 rfl (fun H locs hW => ?_)
  refine k_aload_n E hl 1 dJ5_append_cf1ce_43 rfl ?_
  subst ewd
  exact hret a (v1, cap1, f2) _ _ _ _ _ _ hW ⟨rfl, by rw [ef2]; exact sbo_str hS g1 g3 g4 g5 x⟩ (by decide) (by decide) dJ5_append_cf1ce_44
