theorem dJ4_append_cf1ce_0 : decode cJ4_append_cf1ce 0 = .ok (.aload_n 0, 1) := by decide +kernel
theorem dJ4_append_cf1ce_1 : decode cJ4_append_cf1ce 1 = .ok (.aload_n 1, 1) := by decide +kernel
theorem dJ4_append_cf1ce_2 : decode cJ4_append_cf1ce 2 = .ok (.invokevirtual 23, 3) := by decide +kernel
theorem dJ4_append_cf1ce_5 : decode cJ4_append_cf1ce 5 = .ok (.areturn, 1) := by decide +kernel
set_option maxHeartbeats 4000000 in
set_option maxRecDepth 100000 in
theorem c_apSb (l : Launch) (k : KT) (hE : EH k) (a : Nat) (l9 : List Nat) (ws : va_W) (hw : SW k a l9 ws) (x : Int32) (hin : sIn x) (hq : l9.length + (sLst x).length ≤ 300) : CG l k yJ4_append_cf1ce cJ4_append_cf1ce 2 (some (.object "java/lang/AbstractStringBuilder")) 6 1 700 137 [.ref a, .ref (strAd k x)] (ws) (Qw k (fun u : va_W => u) (fun (r : Nat) (u : va_W) => a = r ∧ SW k a (l9 ++ sLst x) u)) := by
  obtain ⟨v, cap, ml, f, rfl, hS⟩ := hw
  refine CG.ofW (by decide) (Nat.le_of_ble_eq_true rfl) (fun p e s m args below meth c A Q E hnm hW hA hret ls hl => ?_)
  have hl : lv_has ls 2 [(0, .ref a), (1, .ref (strAd k x))] := hl
  refine k_aload_n E hl 0 dJ4_append_cf1ce_0 rfl ?_
  refine k_aload_n E hl 1 dJ4_append_cf1ce_1 rfl ?_
  refine k_finw (X := []) (k_rV (X := []) (As := [.ref (strAd k x)]) (rest := []) (c_apS l k hE a l9 _ ⟨v, cap, ml, f, rfl, hS⟩ x hin hq) E (vl_J4_23.cw E ⟨by decide, by decide⟩) dJ4_append_cf1ce_2 (va_recv E.hK hW.1 (q := (RJ4, TJ4, 4)) (ci := 1) rfl (q0 := 0) rfl) hW hA hl rfl ⟨by decide, by decide⟩ (Nat.le_of_ble_eq_true rfl)) E hW hA (fun r u H locs hp hW => ?_)
  exact hret r u _ _ _ _ _ _ hW hp (by decide) (by decide) dJ4_append_cf1ce_5

theorem dJ5_init_a7421_0 : decode cJ5_init_a7421 0 = .ok (.aload_n 0, 1) := by decide +kernel
theorem dJ5_init_a7421_1 : decode cJ5_init_a7421 1 = .ok (.invokespecial 3, 3) := by decide +kernel
theorem dJ5_init_a7421_4 : decode cJ5_init_a7421 4 = .ok (.aload_n 1, 1) := by decide +kernel
theorem dJ5_init_a7421_5 : decode cJ5_init_a7421 5 = .ok (.invokevirtual 32, 3) := by decide +kernel
theorem dJ5_init_a7421_8 : decode cJ5_init_a7421 8 = .ok (.istore_n 2, 1) := by decide +kernel
theorem dJ5_init_a7421_9 : decode cJ5_init_a7421 9 = .ok (.iload_n 2, 1) := by decide +kernel
theorem dJ5_init_a7421_10 : decode cJ5_init_a7421 10 = .ok (.ldc 38, 2) := by decide +kernel
theorem dJ5_init_a7421_12 : decode cJ5_init_a7421 12 = .ok (.if_icmp .ge 10, 3) := by decide +kernel
theorem dJ5_init_a7421_15 : decode cJ5_init_a7421 15 = .ok (.iload_n 2, 1) := by decide +kernel
theorem dJ5_init_a7421_16 : decode cJ5_init_a7421 16 = .ok (.bipush 16, 2) := by decide +kernel
theorem dJ5_init_a7421_18 : decode cJ5_init_a7421 18 = .ok (.iadd, 1) := by decide +kernel
theorem dJ5_init_a7421_19 : decode cJ5_init_a7421 19 = .ok (.goto 5, 3) := by decide +kernel
theorem dJ5_init_a7421_22 : decode cJ5_init_a7421 22 = .ok (.ldc 39, 2) := by decide +kernel
theorem dJ5_init_a7421_24 : decode cJ5_init_a7421 24 = .ok (.istore_n 3, 1) := by decide +kernel
theorem dJ5_init_a7421_25 : decode cJ5_init_a7421 25 = .ok (.aload_n 1, 1) := by decide +kernel
theorem dJ5_init_a7421_26 : decode cJ5_init_a7421 26 = .ok (.invokevirtual 40, 3) := by decide +kernel
theorem dJ5_init_a7421_29 : decode cJ5_init_a7421 29 = .ok (.istore 4, 2) := by decide +kernel
theorem dJ5_init_a7421_31 : decode cJ5_init_a7421 31 = .ok (.aload_n 0, 1) := by decide +kernel
theorem dJ5_init_a7421_32 : decode cJ5_init_a7421 32 = .ok (.iload 4, 2) := by decide +kernel
theorem dJ5_init_a7421_34 : decode cJ5_init_a7421 34 = .ok (.putfield 22, 3) := by decide +kernel
theorem dJ5_init_a7421_37 : decode cJ5_init_a7421 37 = .ok (.aload_n 0, 1) := by decide +kernel
theorem dJ5_init_a7421_38 : decode cJ5_init_a7421 38 = .ok (.iload 4, 2) := by decide +kernel
theorem dJ5_init_a7421_40 : decode cJ5_init_a7421 40 = .ok (.ifCond .ne 9, 3) := by decide +kernel
theorem dJ5_init_a7421_43 : decode cJ5_init_a7421 43 = .ok (.iload_n 3, 1) := by decide +kernel
theorem dJ5_init_a7421_44 : decode cJ5_init_a7421 44 = .ok (.newarray .byte, 2) := by decide +kernel
theorem dJ5_init_a7421_46 : decode cJ5_init_a7421 46 = .ok (.goto 7, 3) := by decide +kernel
theorem dJ5_init_a7421_49 : decode cJ5_init_a7421 49 = .ok (.iload_n 3, 1) := by decide +kernel
theorem dJ5_init_a7421_50 : decode cJ5_init_a7421 50 = .ok (.invokestatic 26, 3) := by decide +kernel
theorem dJ5_init_a7421_53 : decode cJ5_init_a7421 53 = .ok (.putfield 15, 3) := by decide +kernel
theorem dJ5_init_a7421_56 : decode cJ5_init_a7421 56 = .ok (.aload_n 0, 1) := by decide +kernel
theorem dJ5_init_a7421_57 : decode cJ5_init_a7421 57 = .ok (.aload_n 1, 1) := by decide +kernel
theorem dJ5_init_a7421_58 : decode cJ5_init_a7421 58 = .ok (.invokevirtual 43, 3) := by decide +kernel
theorem dJ5_init_a7421_61 : decode cJ5_init_a7421 61 = .ok (.pop, 1) := by decide +kernel
theorem dJ5_init_a7421_62 : decode cJ5_init_a7421 62 = .ok (.return_, 1) := by decide +kernel
set_option maxHeartbeats 4000000 in
set_option maxRecDepth 100000 in
theorem c_init5 (l : Launch) (k : KT) (hE : EH k) (a : Nat) (x : Int32) (hin : sIn x) (hx : (sLst x).length ≤ 100) : CG l k yJ5_init_a7421 cJ5_init_a7421 5 none 7 2 900 158 [.ref a, .ref (strAd k x)] ([(a, .inr (1, [.null, .int 0, .int 0, .int 0]))]) (Qv k (fun u : va_W => u) (fun u : va_W => SW k a (sLst x) u)) := by
  refine CG.ofV (by decide) (Nat.le_of_ble_eq_true rfl) (fun p e s m args below meth c A Q E hnm hW hA hret ls hl => ?_)
  have hl : lv_has ls 5 [(0, .ref a), (1, .ref (strAd k x))] := hl
  refine k_aload_n E hl 0 dJ5_init_a7421_0 rfl ?_
  refine k_objInit E hl tm_893 dJ5_init_a7421_1 (by decide) (by decide) ?_
  refine k_aload_n E hl 1 dJ5_init_a7421_4 rfl ?_
  refine k_callO (As := []) (rest := []) (c_slen l k hE x hin) E vl_J5_32 (strF hE E hin).1 dJ5_init_a7421_5 rfl hW hA hl rfl ⟨by decide, by decide⟩ ⟨by decide, by decide⟩ (Nat.le_of_ble_eq_true rfl) (fun r H locs hp hW => ?_)
  subst hp
  obtain ⟨wd, ewd⟩ : ∃ wd, wd = sLenL.getD x.toNatClampNeg 0 := ⟨_, rfl⟩
  have hwd : wd ≤ 100 := by rw [ewd, sLenL_ok _ hin.1, ← sLst_len]; exact hx
  refine k_topi (y := nI wd) (by rw [ewd]; rfl) ?_
  refine k_istore_n (lv' := [(2, .int (nI wd)), (0, .ref a), (1, .ref (strAd k x))]) E rfl hl dJ5_init_a7421_8 rfl (by decide) rfl (fun ls hl => ?_)
  refine k_iload_n E hl 0 dJ5_init_a7421_9 rfl ?_
  refine lv_ldc E.hx E.hb E.ho (E.w tm_895 rfl) dJ5_init_a7421_10 ?_
  have hnb : ¬ (2147483631 : Int32) ≤ nI wd := by
    rw [Int32.le_iff_toInt_le, nI_toInt (by omega), show ((2147483631 : Int32)).toInt = 2147483631 from by decide]
    omega
  refine lv_icmp_ge (tgt := 22) E.hx E.hb dJ5_init_a7421_12 (by decide) (fun hc => absurd hc (hnb)) (fun hc => ?_)
  refine k_iload_n E hl 0 dJ5_init_a7421_15 rfl ?_
  refine lv_bipush (v := (16 : Int32)) E.hx E.hb dJ5_init_a7421_16 bp_16 ?_
  refine lv_iadd E.hx E.hb dJ5_init_a7421_18 ?_
  refine k_topi (y := (nI (wd + 16))) ((nI_add wd 16).symm) ?_
  refine lv_goto (tgt := 24) E.hx E.hb dJ5_init_a7421_19 (by decide) ?_
  refine k_istore_n (lv' := [(3, .int (nI (wd + 16))), (2, .int (nI wd)), (0, .ref a), (1, .ref (strAd k x))]) E rfl hl dJ5_init_a7421_24 rfl (by decide) rfl (fun ls hl => ?_)
  refine k_aload_n E hl 3 dJ5_init_a7421_25 rfl ?_
  refine k_callO (As := []) (rest := []) (c_coder l k hE x hin) E vl_J5_40 (strF hE E hin).1 dJ5_init_a7421_26 rfl hW hA hl rfl ⟨by decide, by decide⟩ ⟨by decide, by decide⟩ (Nat.le_of_ble_eq_true rfl) (fun r H locs hp hW => ?_)
  subst hp
  refine k_istore (lv' := [(4, .int (0 : Int32)), (3, .int (nI (wd + 16))), (2, .int (nI wd)), (0, .ref a), (1, .ref (strAd k x))]) E rfl hl dJ5_init_a7421_29 (by decide) rfl (fun ls hl => ?_)
  refine k_aload_n E hl 3 dJ5_init_a7421_31 rfl ?_
  refine k_iload E hl 0 dJ5_init_a7421_32 rfl ?_
  refine pf_J5_22 (ws2 := [(a, .inr (1, [.null, .int 0, .int 0, .int 0]))]) E hW 0 rfl rfl rfl (Nat.le_of_ble_eq_true rfl) dJ5_init_a7421_34 rfl (fun H locs hW => ?_)
  refine k_aload_n E hl 3 dJ5_init_a7421_37 rfl ?_
  refine k_iload E hl 0 dJ5_init_a7421_38 rfl ?_
  refine lv_if_ne (tgt := 49) E.hx E.hb dJ5_init_a7421_40 (by decide) (fun hc => absurd rfl hc) (fun hc => ?_)
  refine k_iload_n E hl 1 dJ5_init_a7421_43 rfl ?_
  refine k_newB (N := (wd + 16)) E hW hA (nI_pos (by omega)) (nI_clamp (by omega)) (by omega) (by first | exact Nat.le_of_ble_eq_true rfl | exact Nat.le_refl _ | omega) (by first | decide | exact Nat.le_of_ble_eq_true rfl | exact Nat.le_refl _ | (simp; omega) | simp | omega) dJ5_init_a7421_44 (fun q1 H hW => ?_)
  have hW : WD k A s.heap ([(a, .inr (1, [.null, .int 0, .int 0, .int 0]))] ++ [(q1, .inl (k.2.1.1 2, wd + 16, .inl (fun _ => 0)))]) H _ := hW
  refine lv_goto (tgt := 53) E.hx E.hb dJ5_init_a7421_46 (by decide) ?_
  refine pf_J5_15 (ws2 := [(a, .inr (1, [.ref q1, .int 0, .int 0, .int 0]))] ++ [(q1, .inl (k.2.1.1 2, wd + 16, .inl (fun _ => 0)))]) E hW 0 rfl rfl rfl (Nat.le_of_ble_eq_true rfl) dJ5_init_a7421_53 rfl (fun H locs hW => ?_)
  have hW : WD k A s.heap (wSB k a q1 (wd + 16) 0 0 (fun _ => 0)) H locs := by rw [wSB, nI_0]; exact hW
  refine k_aload_n E hl 3 dJ5_init_a7421_56 rfl ?_
  refine k_aload_n E hl 4 dJ5_init_a7421_57 rfl ?_
  refine k_finw (X := []) (k_rO (X := []) (As := [.ref (strAd k x)]) (rest := []) (c_apSb l k hE a [] _ (SW.mk (l := []) rfl ⟨Nat.zero_le _, by omega, fun j hj => absurd hj (Nat.not_lt_zero j), sb_fit0⟩) x hin (by show 0 + _ ≤ _; omega)) E (jo_J5_43.cw E ⟨by decide, by decide⟩) dJ5_init_a7421_58 (va_recv E.hK hW.1 (q := (RJ4, TJ4, 4)) (ci := 1) rfl (q0 := 0) rfl) hW hA hl rfl ⟨by decide, by first | decide | exact Nat.le_of_ble_eq_true rfl | exact Nat.le_refl _ | (simp; omega) | simp | omega⟩ (Nat.le_of_ble_eq_true rfl)) E hW hA (fun r u H locs hp hW => ?_)
  refine lv_pop E.hx E.hb dJ5_init_a7421_61 rfl ?_
  exact hret u _ _ _ _ _ _ hW hp.2 (by decide) (by first | decide | exact Nat.le_of_ble_eq_true rfl | exact Nat.le_refl _ | (simp; omega) | simp | omega) dJ5_init_a7421_62

theorem dJ4_init_a7421_0 : decode cJ4_init_a7421 0 = .ok (.aload_n 0, 1) := by decide +kernel
theorem dJ4_init_a7421_1 : decode cJ4_init_a7421 1 = .ok (.aload_n 1, 1) := by decide +kernel
theorem dJ4_init_a7421_2 : decode cJ4_init_a7421 2 = .ok (.invokespecial 7, 3) := by decide +kernel
theorem dJ4_init_a7421_5 : decode cJ4_init_a7421 5 = .ok (.return_, 1) := by decide +kernel
set_option maxHeartbeats 4000000 in
set_option maxRecDepth 100000 in
theorem c_sbinit (l : Launch) (k : KT) (hE : EH k) (a : Nat) (x : Int32) (hin : sIn x) (hx : (sLst x).length ≤ 100) : CG l k yJ4_init_a7421 cJ4_init_a7421 2 none 8 2 900 182 [.ref a, .ref (strAd k x)] ([(a, .inr (1, [.null, .int 0, .int 0, .int 0]))]) (Qv k (fun u : va_W => u) (fun u : va_W => SW k a (sLst x) u)) := by
  refine CG.ofV (by decide) (Nat.le_of_ble_eq_true rfl) (fun p e s m args below meth c A Q E hnm hW hA hret ls hl => ?_)
  have hl : lv_has ls 2 [(0, .ref a), (1, .ref (strAd k x))] := hl
  refine k_aload_n E hl 0 dJ4_init_a7421_0 rfl ?_
  refine k_aload_n E hl 1 dJ4_init_a7421_1 rfl ?_
  refine k_finv (X := []) (k_rI (X := []) (As := [.ref (strAd k x)]) (rest := []) (c_init5 l k hE a x hin hx) E il_J4_7 dJ4_init_a7421_2 hW hA hl rfl ⟨by decide, by decide⟩ ⟨by decide, by decide⟩ (Nat.le_of_ble_eq_true rfl)) E hW hA (fun u H locs hp hW => ?_)
  exact hret u _ _ _ _ _ _ hW hp (by decide) (by decide) dJ4_init_a7421_5
