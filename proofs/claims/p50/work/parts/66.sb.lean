set_option maxHeartbeats 4000000 in
set_option maxRecDepth 100000 in
theorem c_mcoder (l : Launch) (k : KT) (hE : EH k) (a v cnt : Nat) (f : Nat → Int32) : CG l k yJ0_coder_7d493 cJ0_coder_7d493 1 (some .byte) 0 0 0 0 [.ref a] (wStr k a v cnt f) (Qi k (fun u : Unit => wStr k a v cnt f) (fun (r : Int32) (u : Unit) => (0 : Int32) = r)) := by
  refine CG.ofI (by decide) (Nat.le_of_ble_eq_true rfl) (fun p e s m args below meth c A Q E hnm hW hA hret ls hl => ?_)
  have hl : lv_has ls 1 [(0, .ref a)] := hl
  refine va_gets E.hx E.hb (hE.at E).2.2.2.2.2.2.2.2.2.2.2.2.1 hW.2.2 E.ho (E.w tm_702 rfl) (fun _ h => h) dJ0_coder_7d493_0 ?_
  refine lv_if_eq (tgt := 13) E.hx E.hb dJ0_coder_7d493_3 (by decide) (fun hc => absurd hc (by decide)) (fun hc => ?_)
  refine k_aload_n E hl 0 dJ0_coder_7d493_6 rfl ?_
  refine gf_J0_15 E hW 0 rfl rfl dJ0_coder_7d493_7 ?_
  refine lv_goto (tgt := 14) E.hx E.hb dJ0_coder_7d493_10 (by decide) ?_
  exact hret _ () _ _ _ _ _ _ hW rfl (by decide) (by decide) (by decide) dJ0_coder_7d493_14

set_option maxHeartbeats 4000000 in
set_option maxRecDepth 100000 in
theorem c_mlatin (l : Launch) (k : KT) (hE : EH k) (a v cnt : Nat) (f : Nat → Int32) : CG l k yJ0_isLatin1_aae02 cJ0_isLatin1_aae02 1 (some .boolean) 0 0 0 0 [.ref a] (wStr k a v cnt f) (Qi k (fun u : Unit => wStr k a v cnt f) (fun (r : Int32) (u : Unit) => (1 : Int32) = r)) := by
  refine CG.ofI (by decide) (Nat.le_of_ble_eq_true rfl) (fun p e s m args below meth c A Q E hnm hW hA hret ls hl => ?_)
  have hl : lv_has ls 1 [(0, .ref a)] := hl
  refine va_gets E.hx E.hb (hE.at E).2.2.2.2.2.2.2.2.2.2.2.2.1 hW.2.2 E.ho (E.w tm_702 rfl) (fun _ h => h) dJ0_isLatin1_aae02_0 ?_
  refine lv_if_eq (tgt := 17) E.hx E.hb dJ0_isLatin1_aae02_3 (by decide) (fun hc => absurd hc (by decide)) (fun hc => ?_)
  refine k_aload_n E hl 0 dJ0_isLatin1_aae02_6 rfl ?_
  refine gf_J0_15 E hW 0 rfl rfl dJ0_isLatin1_aae02_7 ?_
  refine lv_if_ne (tgt := 17) E.hx E.hb dJ0_isLatin1_aae02_10 (by decide) (fun hc => absurd rfl hc) (fun hc => ?_)
  refine lv_iconst (v := (1 : Int32)) E.hx E.hb dJ0_isLatin1_aae02_13 ic_1 ?_
  refine lv_goto (tgt := 18) E.hx E.hb dJ0_isLatin1_aae02_14 (by decide) ?_
  exact hret _ () _ _ _ _ _ _ hW rfl (by decide) (by decide) (by decide) dJ0_isLatin1_aae02_18

set_option maxHeartbeats 4000000 in
set_option maxRecDepth 100000 in
theorem c_mlen (l : Launch) (k : KT) (hE : EH k) (a v cnt : Nat) (f : Nat → Int32) : CG l k yJ0_length_8abf5 cJ0_length_8abf5 1 (some .int) 1 0 0 20 [.ref a] (wStr k a v cnt f) (Qi k (fun u : Unit => wStr k a v cnt f) (fun (r : Int32) (u : Unit) => nI cnt = r)) := by
  refine CG.ofI (by decide) (Nat.le_of_ble_eq_true rfl) (fun p e s m args below meth c A Q E hnm hW hA hret ls hl => ?_)
  have hl : lv_has ls 1 [(0, .ref a)] := hl
  refine k_aload_n E hl 0 dJ0_length_8abf5_0 rfl ?_
  refine gf_J0_9 E hW 0 rfl rfl dJ0_length_8abf5_1 ?_
  refine k_alen (v := nI cnt) E hW 1 2 rfl rfl rfl dJ0_length_8abf5_4 ?_
  refine k_aload_n E hl 0 dJ0_length_8abf5_5 rfl ?_
  refine k_fini (X := []) (k_rV (X := []) (As := []) (rest := [.int (nI cnt)]) (c_mcoder l k hE a v cnt f) E (vl_J0_335.cw E ⟨by decide, by decide⟩) dJ0_length_8abf5_6 (va_recv E.hK hW.1 (q := (RJ0, TJ0, 4)) (ci := 0) rfl (q0 := 0) rfl) hW hA hl rfl ⟨by decide, by decide⟩ (Nat.le_of_ble_eq_true rfl)) E hW hA (fun r u H locs hp hW => ?_)
  subst hp
  refine lv_ishr E.hx E.hb dJ0_length_8abf5_9 ?_
  refine k_topi (y := (nI cnt)) (sb_shr0 _).symm ?_
  exact hret _ () _ _ _ _ _ _ hW rfl rfl (by decide) (by decide) dJ0_length_8abf5_10

set_option maxHeartbeats 4000000 in
set_option maxRecDepth 100000 in
theorem c_m1at (l : Launch) (k : KT) (hE : EH k) (v cnt : Nat) (f : Nat → Int32) (i c9 : Nat) (hi : i < cnt) (hc : cnt ≤ 602) (h9 : c9 < 256) (hc9 : f i = sb_b c9) : CG l k yJ1_charAt_3b067 cJ1_charAt_3b067 2 (some .char) 2 0 0 43 [.ref v, .int (nI i)] ([(v, .inl (k.2.1.1 2, cnt, .inl f))]) (Qi k (fun u : Unit => [(v, .inl (k.2.1.1 2, cnt, .inl f))]) (fun (r : Int32) (u : Unit) => nI c9 = r)) := by
  refine CG.ofI (by decide) (Nat.le_of_ble_eq_true rfl) (fun p e s m args below meth c A Q E hnm hW hA hret ls hl => ?_)
  have hl : lv_has ls 2 [(0, .ref v), (1, .int (nI i))] := hl
  refine k_iload_n E hl 1 dJ1_charAt_3b067_0 rfl ?_
  refine k_aload_n E hl 0 dJ1_charAt_3b067_1 rfl ?_
  refine k_alen (v := nI cnt) E hW 0 2 rfl rfl rfl dJ1_charAt_3b067_2 ?_
  refine k_callSv0 (As := [.int (nI i), .int (nI cnt)]) (rest := []) (c_chk l k hE (nI i) (nI cnt) (nI_pos (by omega)) (nI_lt hi (by omega))) E sl_J1_9 dJ1_charAt_3b067_3 rfl hW hA hl rfl ⟨by decide, by decide⟩ ⟨by decide, by decide⟩ (Nat.le_of_ble_eq_true rfl) (fun H locs hW => ?_)
  refine k_aload_n E hl 0 dJ1_charAt_3b067_6 rfl ?_
  refine k_iload_n E hl 1 dJ1_charAt_3b067_7 rfl ?_
  refine k_bald E hW 0 rfl (vp_in_nI hi (by omega)) dJ1_charAt_3b067_8 ?_
  refine k_topi (y := sb_b c9) (by rw [nI_clamp (by omega)]; exact hc9.symm) ?_
  refine lv_sipush (v := (255 : Int32)) E.hx E.hb dJ1_charAt_3b067_9 sp_255 ?_
  refine lv_iand E.hx E.hb dJ1_charAt_3b067_12 ?_
  refine k_topi (y := nI c9) ((sb_byte c9 h9).1.symm) ?_
  refine lv_i2c (v := nI c9) E.hx E.hb dJ1_charAt_3b067_13 ((sb_byte c9 h9).2.1) ?_
  exact hret _ () _ _ _ _ _ _ hW rfl (pk_charN (q := c9) (by omega)).1 (by decide) (by decide) dJ1_charAt_3b067_14

set_option maxHeartbeats 4000000 in
set_option maxRecDepth 100000 in
theorem c_mat (l : Launch) (k : KT) (hE : EH k) (a v cnt : Nat) (f : Nat → Int32) (i c9 : Nat) (hi : i < cnt) (hcn : cnt ≤ 602) (h9 : c9 < 256) (hc9 : f i = sb_b c9) : CG l k yJ0_charAt_5068e cJ0_charAt_5068e 2 (some .char) 3 0 0 64 [.ref a, .int (nI i)] (wStr k a v cnt f) (Qi k (fun u : Unit => wStr k a v cnt f) (fun (r : Int32) (u : Unit) => nI c9 = r)) := by
  refine CG.ofI (by decide) (Nat.le_of_ble_eq_true rfl) (fun p e s m args below meth c A Q E hnm hW hA hret ls hl => ?_)
  have hl : lv_has ls 2 [(0, .ref a), (1, .int (nI i))] := hl
  refine k_aload_n E hl 0 dJ0_charAt_5068e_0 rfl ?_
  refine k_fini (X := []) (k_rV (X := []) (As := []) (rest := []) (c_mlatin l k hE a v cnt f) E (vl_J0_492.cw E ⟨by decide, by decide⟩) dJ0_charAt_5068e_1 (va_recv E.hK hW.1 (q := (RJ0, TJ0, 4)) (ci := 0) rfl (q0 := 0) rfl) hW hA hl rfl ⟨by decide, by decide⟩ (Nat.le_of_ble_eq_true rfl)) E hW hA (fun r u H locs hp hW => ?_)
  subst hp
  refine lv_if_eq (tgt := 16) E.hx E.hb dJ0_charAt_5068e_4 (by decide) (fun hc => absurd hc (by decide)) (fun hc => ?_)
  refine k_aload_n E hl 0 dJ0_charAt_5068e_7 rfl ?_
  refine gf_J0_9 E hW 0 rfl rfl dJ0_charAt_5068e_8 ?_
  refine k_iload_n E hl 1 dJ0_charAt_5068e_11 rfl ?_
  have hW : WD k A s.heap ([(a, .inr (0, [.ref v, .int 0, .int 0, .int 0]))] ++ [(v, .inl (k.2.1.1 2, cnt, .inl f))]) H locs := hW
  refine k_fini (X := [(a, .inr (0, [.ref v, .int 0, .int 0, .int 0]))]) (k_rS (X := [(a, .inr (0, [.ref v, .int 0, .int 0, .int 0]))]) (As := [.ref v, .int (nI i)]) (rest := []) (c_m1at l k hE v cnt f i c9 hi hcn h9 hc9) E sl_J0_495 dJ0_charAt_5068e_12 hW hA hl rfl ⟨by decide, by decide⟩ ⟨by decide, by decide⟩ (Nat.le_of_ble_eq_true rfl)) E hW hA (fun r u H locs hp hW => ?_)
  subst hp
  exact hret _ () _ _ _ _ _ _ hW rfl (pk_charN (q := c9) (by omega)).1 (by decide) (by decide) dJ0_charAt_5068e_15
