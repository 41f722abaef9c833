/-! the text is fed in words of twenty bytes -/
def chI (t : Nat → Nat) (n9 i : Nat) : Int32 := if i < n9 then nI (t i) else 32
def gW (t : Nat → Nat) (n9 at9 : Nat) : Nat → Nat → Int32
  | 0 => fun _ => 0
  | k + 1 => upd (gW t n9 at9 k) (k / 4) (gW t n9 at9 k (k / 4) ||| (chI t n9 (at9 + k) <<< (nI (24 - 8 * (k % 4)) &&& 31)))
def feedF (n : Nat) (sv : Value) (th : OS) (t : Nat → Nat) (n9 : Nat) (in0 : OS) : Nat → Option OS
  | 0 => some in0
  | g + 1 => bnd (feedF n sv th t n9 in0 g) (fun y => bnd2 (f_X8_feed n sv th 600 y (gW t n9 (20 * g) 20 0) (gW t n9 (20 * g) 20 1) (gW t n9 (20 * g) 20 2) (gW t n9 (20 * g) 20 3) (gW t n9 (20 * g) 20 4)) (fun y2 _ => some y2))
theorem sx_irem {k : Nat} (hk : k < 2 ^ 31) : rm32 (nI k) (4 : Int32) = nI (k % 4) := pk_rem (d := 4) hk (by decide) (by decide)
theorem dL_feed_0 : decode cL_feed 0 = .ok (.iconst 0, 1) := by decide +kernel
theorem dL_feed_1 : decode cL_feed 1 = .ok (.istore_n 2, 1) := by decide +kernel
theorem dL_feed_2 : decode cL_feed 2 = .ok (.iload_n 2, 1) := by decide +kernel
theorem dL_feed_3 : decode cL_feed 3 = .ok (.aload_n 1, 1) := by decide +kernel
theorem dL_feed_4 : decode cL_feed 4 = .ok (.invokevirtual 15, 3) := by decide +kernel
theorem dL_feed_7 : decode cL_feed 7 = .ok (.if_icmp .ge 93, 3) := by decide +kernel
theorem dL_feed_10 : decode cL_feed 10 = .ok (.iconst 5, 1) := by decide +kernel
theorem dL_feed_11 : decode cL_feed 11 = .ok (.newarray .int, 2) := by decide +kernel
theorem dL_feed_13 : decode cL_feed 13 = .ok (.astore_n 3, 1) := by decide +kernel
theorem dL_feed_14 : decode cL_feed 14 = .ok (.iconst 0, 1) := by decide +kernel
theorem dL_feed_15 : decode cL_feed 15 = .ok (.istore 4, 2) := by decide +kernel
theorem dL_feed_17 : decode cL_feed 17 = .ok (.iload 4, 2) := by decide +kernel
theorem dL_feed_19 : decode cL_feed 19 = .ok (.bipush 20, 2) := by decide +kernel
theorem dL_feed_21 : decode cL_feed 21 = .ok (.if_icmp .ge 53, 3) := by decide +kernel
theorem dL_feed_24 : decode cL_feed 24 = .ok (.aload_n 3, 1) := by decide +kernel
theorem dL_feed_25 : decode cL_feed 25 = .ok (.iload 4, 2) := by decide +kernel
theorem dL_feed_27 : decode cL_feed 27 = .ok (.iconst 4, 1) := by decide +kernel
theorem dL_feed_28 : decode cL_feed 28 = .ok (.idiv, 1) := by decide +kernel
theorem dL_feed_29 : decode cL_feed 29 = .ok (.dup2, 1) := by decide +kernel
theorem dL_feed_30 : decode cL_feed 30 = .ok (.iaload, 1) := by decide +kernel
theorem dL_feed_31 : decode cL_feed 31 = .ok (.iload_n 2, 1) := by decide +kernel
theorem dL_feed_32 : decode cL_feed 32 = .ok (.iload 4, 2) := by decide +kernel
theorem dL_feed_34 : decode cL_feed 34 = .ok (.iadd, 1) := by decide +kernel
theorem dL_feed_35 : decode cL_feed 35 = .ok (.aload_n 1, 1) := by decide +kernel
theorem dL_feed_36 : decode cL_feed 36 = .ok (.invokevirtual 15, 3) := by decide +kernel
theorem dL_feed_39 : decode cL_feed 39 = .ok (.if_icmp .ge 14, 3) := by decide +kernel
theorem dL_feed_42 : decode cL_feed 42 = .ok (.aload_n 1, 1) := by decide +kernel
theorem dL_feed_43 : decode cL_feed 43 = .ok (.iload_n 2, 1) := by decide +kernel
theorem dL_feed_44 : decode cL_feed 44 = .ok (.iload 4, 2) := by decide +kernel
theorem dL_feed_46 : decode cL_feed 46 = .ok (.iadd, 1) := by decide +kernel
theorem dL_feed_47 : decode cL_feed 47 = .ok (.invokevirtual 21, 3) := by decide +kernel
theorem dL_feed_50 : decode cL_feed 50 = .ok (.goto 5, 3) := by decide +kernel
theorem dL_feed_53 : decode cL_feed 53 = .ok (.bipush 32, 2) := by decide +kernel
theorem dL_feed_55 : decode cL_feed 55 = .ok (.bipush 24, 2) := by decide +kernel
theorem dL_feed_57 : decode cL_feed 57 = .ok (.bipush 8, 2) := by decide +kernel
theorem dL_feed_59 : decode cL_feed 59 = .ok (.iload 4, 2) := by decide +kernel
theorem dL_feed_61 : decode cL_feed 61 = .ok (.iconst 4, 1) := by decide +kernel
theorem dL_feed_62 : decode cL_feed 62 = .ok (.irem, 1) := by decide +kernel
theorem dL_feed_63 : decode cL_feed 63 = .ok (.imul, 1) := by decide +kernel
theorem dL_feed_64 : decode cL_feed 64 = .ok (.isub, 1) := by decide +kernel
theorem dL_feed_65 : decode cL_feed 65 = .ok (.ishl, 1) := by decide +kernel
theorem dL_feed_66 : decode cL_feed 66 = .ok (.ior, 1) := by decide +kernel
theorem dL_feed_67 : decode cL_feed 67 = .ok (.iastore, 1) := by decide +kernel
theorem dL_feed_68 : decode cL_feed 68 = .ok (.iinc 4 1, 3) := by decide +kernel
theorem dL_feed_71 : decode cL_feed 71 = .ok (.goto (-54), 3) := by decide +kernel
theorem dL_feed_74 : decode cL_feed 74 = .ok (.aload_n 0, 1) := by decide +kernel
theorem dL_feed_75 : decode cL_feed 75 = .ok (.aload_n 3, 1) := by decide +kernel
theorem dL_feed_76 : decode cL_feed 76 = .ok (.iconst 0, 1) := by decide +kernel
theorem dL_feed_77 : decode cL_feed 77 = .ok (.iaload, 1) := by decide +kernel
theorem dL_feed_78 : decode cL_feed 78 = .ok (.aload_n 3, 1) := by decide +kernel
theorem dL_feed_79 : decode cL_feed 79 = .ok (.iconst 1, 1) := by decide +kernel
theorem dL_feed_80 : decode cL_feed 80 = .ok (.iaload, 1) := by decide +kernel
theorem dL_feed_81 : decode cL_feed 81 = .ok (.aload_n 3, 1) := by decide +kernel
theorem dL_feed_82 : decode cL_feed 82 = .ok (.iconst 2, 1) := by decide +kernel
theorem dL_feed_83 : decode cL_feed 83 = .ok (.iaload, 1) := by decide +kernel
theorem dL_feed_84 : decode cL_feed 84 = .ok (.aload_n 3, 1) := by decide +kernel
theorem dL_feed_85 : decode cL_feed 85 = .ok (.iconst 3, 1) := by decide +kernel
theorem dL_feed_86 : decode cL_feed 86 = .ok (.iaload, 1) := by decide +kernel
theorem dL_feed_87 : decode cL_feed 87 = .ok (.aload_n 3, 1) := by decide +kernel
theorem dL_feed_88 : decode cL_feed 88 = .ok (.iconst 4, 1) := by decide +kernel
theorem dL_feed_89 : decode cL_feed 89 = .ok (.iaload, 1) := by decide +kernel
theorem dL_feed_90 : decode cL_feed 90 = .ok (.invokevirtual 25, 3) := by decide +kernel
theorem dL_feed_93 : decode cL_feed 93 = .ok (.pop, 1) := by decide +kernel
theorem dL_feed_94 : decode cL_feed 94 = .ok (.iinc 2 20, 3) := by decide +kernel
theorem dL_feed_97 : decode cL_feed 97 = .ok (.goto (-95), 3) := by decide +kernel
theorem dL_feed_100 : decode cL_feed 100 = .ok (.aload_n 0, 1) := by decide +kernel
theorem dL_feed_101 : decode cL_feed 101 = .ok (.aload_n 1, 1) := by decide +kernel
theorem dL_feed_102 : decode cL_feed 102 = .ok (.invokevirtual 15, 3) := by decide +kernel
theorem dL_feed_105 : decode cL_feed 105 = .ok (.invokevirtual 31, 3) := by decide +kernel
theorem dL_feed_108 : decode cL_feed 108 = .ok (.pop, 1) := by decide +kernel
theorem dL_feed_109 : decode cL_feed 109 = .ok (.return_, 1) := by decide +kernel
theorem dL_parsed_0 : decode cL_parsed 0 = .ok (.aload_n 0, 1) := by decide +kernel
theorem dL_parsed_1 : decode cL_parsed 1 = .ok (.aload_n 1, 1) := by decide +kernel
theorem dL_parsed_2 : decode cL_parsed 2 = .ok (.invokestatic 35, 3) := by decide +kernel
theorem dL_parsed_5 : decode cL_parsed 5 = .ok (.aload_n 0, 1) := by decide +kernel
theorem dL_parsed_6 : decode cL_parsed 6 = .ok (.invokevirtual 38, 3) := by decide +kernel
theorem dL_parsed_9 : decode cL_parsed 9 = .ok (.ireturn, 1) := by decide +kernel
set_option maxHeartbeats 4000000 in
set_option maxRecDepth 100000 in
theorem c_L_feed (n : Nat) (l : Launch) (k : KT) (hE : EH k) (a_th a_in a_ou a_ru a_no a_fo a_rd a_pa : Nat → Nat) (sv_th : Value) (th_0 in_0 : OS) (b v n9 : Nat) (f : Nat → Int32) (t : Nat → Nat) (hn9 : n9 ≤ 240) (hS : sb_Lat t n9 f) (in_1 : OS) (r1 : Int32) (hF : ∀ g, g ≤ (n9 + 19) / 20 → ∃ y, feedF n sv_th th_0 t n9 in_0 g = some y) (hT : ∀ y, feedF n sv_th th_0 t n9 in_0 ((n9 + 19) / 20) = some y → f_X8_truncate n sv_th th_0 600 y (nI n9) = some (in_1, r1)) : CG l k yL_feed cL_feed 5 none 5 40 300 120 [.ref (a_th 0), .ref b] (wMCo k a_th (a_in 0) (a_ou 0) (a_ru 0) (a_no 0) (a_fo 0) (a_rd 0) (a_pa 0) sv_th th_0 ++ wBytes k a_in 600 in_0 ++ wStr k b v n9 f) (Qv k (fun u : OS => (wMCo k a_th (a_in 0) (a_ou 0) (a_ru 0) (a_no 0) (a_fo 0) (a_rd 0) (a_pa 0) sv_th th_0 ++ wBytes k a_in 600 u ++ wStr k b v n9 f)) (fun u => in_1 = u)) := by
  refine CG.ofV (by decide) (Nat.le_of_ble_eq_true rfl) (fun p e s m args below meth c A Q E hnm hW hA hret ls hl => ?_)
  have hl : lv_has ls 5 [(0, .ref (a_th 0)), (1, .ref b)] := hl
  have END : ∀ (g : Nat) (y : OS) (hy : feedF n sv_th th_0 t n9 in_0 g = some y) (h1 : n9 ≤ 20 * g) (h2 : 20 * g < n9 + 20) (H : Heap) (locs : List Loc) (ls : Array Slot) (hW : WD k A s.heap ((wMCo k a_th (a_in 0) (a_ou 0) (a_ru 0) (a_no 0) (a_fo 0) (a_rd 0) (a_pa 0) sv_th th_0 ++ wBytes k a_in 600 y ++ wStr k b v n9 f)) H locs) (hl : lv_has ls 5 [(2, .int (nI (20 * g))), (0, .ref (a_th 0)), (1, .ref b)]), W p l e { frames := 5, cells := 40, slots := 300, locals := 120 } s m args below meth c H locs (20) (100) Q (F0 m 100 ls []) := by
    intro g y hy h1 h2 H locs ls hW hl
    obtain rfl : g = (n9 + 19) / 20 := by omega
    refine k_aload_n E hl 1 dL_feed_100 rfl ?_
    refine k_aload_n E hl 2 dL_feed_101 rfl ?_
    refine k_callVi (As := []) (rest := [.ref (a_th 0)]) (ws2 := fun _ => (wMCo k a_th (a_in 0) (a_ou 0) (a_ru 0) (a_no 0) (a_fo 0) (a_rd 0) (a_pa 0) sv_th th_0 ++ wBytes k a_in 600 y ++ wStr k b v n9 f)) (c_mlen l k hE b v n9 f) E vl_L_15 dL_feed_102 rfl [3, 4] 0 3 hW hA hl rfl rfl rfl rfl ⟨by decide, by decide⟩ ⟨by show _ ≤ 40; omega, by show _ ≤ 300; omega⟩ (Nat.le_of_ble_eq_true rfl) rfl (fun _ => rfl) (fun _ => rfl) (fun r u H locs hp hW => ?_)
    subst hp
    refine k_callVi (As := [.int (nI n9)]) (rest := []) (ws2 := fun u => (wMCo k a_th (a_in 0) (a_ou 0) (a_ru 0) (a_no 0) (a_fo 0) (a_rd 0) (a_pa 0) sv_th th_0 ++ wBytes k a_in 600 u ++ wStr k b v n9 f)) (c_X8_truncate n l k a_th a_in a_ou a_ru a_no a_fo a_rd a_pa sv_th th_0 600 y (nI n9) _ (hT y hy)) E vl_L_31 dL_feed_105 rfl [0, 1, 2] 8 0 hW hA hl rfl rfl rfl rfl ⟨by decide, by decide⟩ ⟨by show _ ≤ 40; omega, by show _ ≤ 300; omega⟩ (Nat.le_of_ble_eq_true rfl) rfl (fun _ => rfl) (fun _ => rfl) (fun r u H locs hp hW => ?_)
    cases hp
    refine lv_pop E.hx E.hb dL_feed_108 rfl ?_
    exact hret in_1 _ _ _ _ _ _ hW rfl (by decide) (by decide) dL_feed_109
  have LOOP : ∀ (d g : Nat) (y : OS) (hy : feedF n sv_th th_0 t n9 in_0 g = some y) (h1 : n9 ≤ 20 * (g + d)) (h2 : 20 * g < n9 + 20) (H : Heap) (locs : List Loc) (ls : Array Slot) (hW : WD k A s.heap ((wMCo k a_th (a_in 0) (a_ou 0) (a_ru 0) (a_no 0) (a_fo 0) (a_rd 0) (a_pa 0) sv_th th_0 ++ wBytes k a_in 600 y ++ wStr k b v n9 f)) H locs) (hl : lv_has ls 5 [(2, .int (nI (20 * g))), (0, .ref (a_th 0)), (1, .ref b)]), W p l e { frames := 5, cells := 40, slots := 300, locals := 120 } s m args below meth c H locs (g) (5 * g) Q (F0 m 2 ls []) := by
    intro d
    induction d with
    | zero =>
      intro g y hy h1 h2 H locs ls hW hl
      refine k_iload_n E hl 0 dL_feed_2 rfl ?_
      refine k_aload_n E hl 2 dL_feed_3 rfl ?_
      refine k_callVi (As := []) (rest := [.int (nI (20 * g))]) (ws2 := fun _ => (wMCo k a_th (a_in 0) (a_ou 0) (a_ru 0) (a_no 0) (a_fo 0) (a_rd 0) (a_pa 0) sv_th th_0 ++ wBytes k a_in 600 y ++ wStr k b v n9 f)) (c_mlen l k hE b v n9 f) E vl_L_15 dL_feed_4 rfl [3, 4] 0 3 hW hA hl rfl rfl rfl rfl ⟨by decide, by decide⟩ ⟨by show _ ≤ 40; omega, by show _ ≤ 300; omega⟩ (Nat.le_of_ble_eq_true rfl) rfl (fun _ => rfl) (fun _ => rfl) (fun r u H locs hp hW => ?_)
      subst hp
      refine lv_icmp_ge (tgt := 100) E.hx E.hb dL_feed_7 (by decide) (fun hc => ?_) (fun hc => absurd (nI_le (show n9 ≤ 20 * g by omega) (by omega)) hc)
      exact W.widen (by omega) (by omega) (END g y hy (by omega) h2 _ _ _ hW hl)
    | succ d ih =>
      intro g y hy h1 h2 H locs ls hW hl
      refine k_iload_n E hl 0 dL_feed_2 rfl ?_
      refine k_aload_n E hl 2 dL_feed_3 rfl ?_
      refine k_callVi (As := []) (rest := [.int (nI (20 * g))]) (ws2 := fun _ => (wMCo k a_th (a_in 0) (a_ou 0) (a_ru 0) (a_no 0) (a_fo 0) (a_rd 0) (a_pa 0) sv_th th_0 ++ wBytes k a_in 600 y ++ wStr k b v n9 f)) (c_mlen l k hE b v n9 f) E vl_L_15 dL_feed_4 rfl [3, 4] 0 3 hW hA hl rfl rfl rfl rfl ⟨by decide, by decide⟩ ⟨by show _ ≤ 40; omega, by show _ ≤ 300; omega⟩ (Nat.le_of_ble_eq_true rfl) rfl (fun _ => rfl) (fun _ => rfl) (fun r u H locs hp hW => ?_)
      subst hp
      refine lv_icmp_ge (tgt := 100) E.hx E.hb dL_feed_7 (by decide) (fun hc => ?_) (fun hc => ?_)
      · have h3 : n9 ≤ 20 * g := (nI_leI (by omega) (by omega)).mp hc
        exact W.widen (by omega) (by omega) (END g y hy h3 h2 _ _ _ hW hl)
      have hlt : 20 * g < n9 := Nat.lt_of_not_le fun h => hc (nI_le h (by omega))
      have hg15 : g ≤ 12 := by omega
      refine lv_iconst (v := (5 : Int32)) E.hx E.hb dL_feed_10 ic_5 ?_
      refine k_newI (N := 5) E hW hA (by decide) (by decide) (by decide) (by show _ ≤ 40; omega) (by show _ ≤ 300; omega) dL_feed_11 (fun q1 H hW => ?_)
      have hW : WD k A s.heap ((wMCo k a_th (a_in 0) (a_ou 0) (a_ru 0) (a_no 0) (a_fo 0) (a_rd 0) (a_pa 0) sv_th th_0 ++ wBytes k a_in 600 y ++ wStr k b v n9 f) ++ [(q1, .inl (k.2.1.1 0, 5, .inl (gW t n9 (20 * g) 0)))]) H _ := hW
      refine lv_astore_n (lv' := [(3, .ref q1), (2, .int (nI (20 * g))), (0, .ref (a_th 0)), (1, .ref b)]) E.hx E.hb dL_feed_13 rfl hl (by decide) rfl (fun ls hl => ?_)
      refine lv_iconst (v := (0 : Int32)) E.hx E.hb dL_feed_14 ic_0 ?_
      refine k_istore (lv' := [(4, .int (nI 0)), (3, .ref q1), (2, .int (nI (20 * g))), (0, .ref (a_th 0)), (1, .ref b)]) E (show nI 0 = (0 : Int32) from nI_0) hl dL_feed_15 (by decide) rfl (fun ls hl => ?_)
      have OUT : ∀ (H : Heap) (locs : List Loc) (ls : Array Slot) (hW : WD k A s.heap ((wMCo k a_th (a_in 0) (a_ou 0) (a_ru 0) (a_no 0) (a_fo 0) (a_rd 0) (a_pa 0) sv_th th_0 ++ wBytes k a_in 600 y ++ wStr k b v n9 f) ++ [(q1, .inl (k.2.1.1 0, 5, .inl (gW t n9 (20 * g) 20)))]) H locs) (hl : lv_has ls 5 [(3, .ref q1), (2, .int (nI (20 * g))), (0, .ref (a_th 0)), (1, .ref b)]), W p l e { frames := 5, cells := 40, slots := 300, locals := 120 } s m args below meth c H locs (g + 1) (5 * g + 5) Q (F0 m 74 ls []) := by
        intro H locs ls hW hl
        refine k_aload_n E hl 2 dL_feed_74 rfl ?_
        refine k_aload_n E hl 0 dL_feed_75 rfl ?_
        refine lv_iconst (v := (0 : Int32)) E.hx E.hb dL_feed_76 ic_0 ?_
        refine k_iald E hW 5 rfl (show vp_in (0 : Int32) 5 by unfold vp_in; decide) dL_feed_77 ?_
        refine k_topi (y := gW t n9 (20 * g) 20 0) rfl ?_
        refine k_aload_n E hl 0 dL_feed_78 rfl ?_
        refine lv_iconst (v := (1 : Int32)) E.hx E.hb dL_feed_79 ic_1 ?_
        refine k_iald E hW 5 rfl (show vp_in (1 : Int32) 5 by unfold vp_in; decide) dL_feed_80 ?_
        refine k_topi (y := gW t n9 (20 * g) 20 1) rfl ?_
        refine k_aload_n E hl 0 dL_feed_81 rfl ?_
        refine lv_iconst (v := (2 : Int32)) E.hx E.hb dL_feed_82 ic_2 ?_
        refine k_iald E hW 5 rfl (show vp_in (2 : Int32) 5 by unfold vp_in; decide) dL_feed_83 ?_
        refine k_topi (y := gW t n9 (20 * g) 20 2) rfl ?_
        refine k_aload_n E hl 0 dL_feed_84 rfl ?_
        refine lv_iconst (v := (3 : Int32)) E.hx E.hb dL_feed_85 ic_3 ?_
        refine k_iald E hW 5 rfl (show vp_in (3 : Int32) 5 by unfold vp_in; decide) dL_feed_86 ?_
        refine k_topi (y := gW t n9 (20 * g) 20 3) rfl ?_
        refine k_aload_n E hl 0 dL_feed_87 rfl ?_
        refine lv_iconst (v := (4 : Int32)) E.hx E.hb dL_feed_88 ic_4 ?_
        refine k_iald E hW 5 rfl (show vp_in (4 : Int32) 5 by unfold vp_in; decide) dL_feed_89 ?_
        refine k_topi (y := gW t n9 (20 * g) 20 4) rfl ?_
        obtain ⟨y2, hy2⟩ := hF (g + 1) (by omega)
        have hz : bnd (feedF n sv_th th_0 t n9 in_0 g) (fun y => bnd2 (f_X8_feed n sv_th th_0 600 y (gW t n9 (20 * g) 20 0) (gW t n9 (20 * g) 20 1) (gW t n9 (20 * g) 20 2) (gW t n9 (20 * g) 20 3) (gW t n9 (20 * g) 20 4)) (fun y2 _ => some y2)) = some y2 := hy2
        rw [hy] at hz
        obtain ⟨y3, r3, hg3, hz⟩ := ob2 (show bnd2 (f_X8_feed n sv_th th_0 600 y (gW t n9 (20 * g) 20 0) (gW t n9 (20 * g) 20 1) (gW t n9 (20 * g) 20 2) (gW t n9 (20 * g) 20 3) (gW t n9 (20 * g) 20 4)) (fun y2 _ => some y2) = some y2 from hz)
        cases hz
        refine k_callVi (As := [.int (gW t n9 (20 * g) 20 0), .int (gW t n9 (20 * g) 20 1), .int (gW t n9 (20 * g) 20 2), .int (gW t n9 (20 * g) 20 3), .int (gW t n9 (20 * g) 20 4)]) (rest := []) (ws2 := fun u => (wMCo k a_th (a_in 0) (a_ou 0) (a_ru 0) (a_no 0) (a_fo 0) (a_rd 0) (a_pa 0) sv_th th_0 ++ wBytes k a_in 600 u ++ wStr k b v n9 f) ++ [(q1, .inl (k.2.1.1 0, 5, .inl (gW t n9 (20 * g) 20)))]) (c_X8_feed n l k a_th a_in a_ou a_ru a_no a_fo a_rd a_pa sv_th th_0 600 y (gW t n9 (20 * g) 20 0) (gW t n9 (20 * g) 20 1) (gW t n9 (20 * g) 20 2) (gW t n9 (20 * g) 20 3) (gW t n9 (20 * g) 20 4) _ hg3) E vl_L_25 dL_feed_90 rfl [0, 1, 2] 8 0 hW hA hl rfl rfl rfl rfl ⟨by decide, by decide⟩ ⟨by show _ ≤ 40; omega, by show _ ≤ 300; omega⟩ (Nat.le_of_ble_eq_true rfl) rfl (fun _ => rfl) (fun _ => rfl) (fun r u H locs hp hW => ?_)
        cases hp
        refine lv_pop E.hx E.hb dL_feed_93 rfl ?_
        refine k_iinc (lv' := [(2, .int (nI (20 * (g + 1)))), (3, .ref q1), (0, .ref (a_th 0)), (1, .ref b)]) E hl 1 dL_feed_94 rfl (show nI (20 * (g + 1)) = nI (20 * g) + Int32.ofInt 20 from by rw [show Int32.ofInt 20 = nI 20 from by decide, nI_add]; rfl) (by decide) rfl (fun ls hl => ?_)
        refine lv_goto (tgt := 2) E.hx E.hb dL_feed_97 (by decide) ?_
        have hW : WD k A s.heap ((wMCo k a_th (a_in 0) (a_ou 0) (a_ru 0) (a_no 0) (a_fo 0) (a_rd 0) (a_pa 0) sv_th th_0 ++ wBytes k a_in 600 y2 ++ wStr k b v n9 f)) H locs := hW.sub [0, 1, 2, 3, 4] rfl rfl rfl
        exact W.widen (by omega) (by omega) (ih (g + 1) y2 hy2 (by omega) (by omega) _ _ _ hW (lv_sub hl [0, 2, 3] rfl))
      have INN : ∀ (d2 i : Nat) (hi : i + d2 = 20) (H : Heap) (locs : List Loc) (ls : Array Slot) (hW : WD k A s.heap ((wMCo k a_th (a_in 0) (a_ou 0) (a_ru 0) (a_no 0) (a_fo 0) (a_rd 0) (a_pa 0) sv_th th_0 ++ wBytes k a_in 600 y ++ wStr k b v n9 f) ++ [(q1, .inl (k.2.1.1 0, 5, .inl (gW t n9 (20 * g) i)))]) H locs) (hl : lv_has ls 5 [(4, .int (nI i)), (3, .ref q1), (2, .int (nI (20 * g))), (0, .ref (a_th 0)), (1, .ref b)]), W p l e { frames := 5, cells := 40, slots := 300, locals := 120 } s m args below meth c H locs (g + 1) (5 * g + 5) Q (F0 m 17 ls []) := by
        intro d2
        induction d2 with
        | zero =>
          intro i hi H locs ls hW hl
          obtain rfl : i = 20 := by omega
          refine k_iload E hl 0 dL_feed_17 rfl ?_
          refine lv_bipush (v := (20 : Int32)) E.hx E.hb dL_feed_19 bp_20 ?_
          refine lv_icmp_ge (tgt := 74) E.hx E.hb dL_feed_21 (by decide) (fun hc => ?_) (fun hc => absurd (show (20 : Int32) ≤ nI 20 by decide) hc)
          exact OUT _ _ _ hW (lv_sub hl [1, 2, 3, 4] rfl)
        | succ d2 ih2 =>
          intro i hi H locs ls hW hl
          refine k_iload E hl 0 dL_feed_17 rfl ?_
          refine lv_bipush (v := (20 : Int32)) E.hx E.hb dL_feed_19 bp_20 ?_
          refine lv_icmp_ge (tgt := 74) E.hx E.hb dL_feed_21 (by decide) (fun hc => absurd hc (show ¬ nI 20 ≤ nI i from nI_ge (by omega) (by decide))) (fun hc => ?_)
          have hin5 : vp_in (nI (i / 4)) 5 := vp_in_nI (by omega) (by decide)
          refine k_aload_n E hl 1 dL_feed_24 rfl ?_
          refine k_iload E hl 0 dL_feed_25 rfl ?_
          refine lv_iconst (v := (4 : Int32)) E.hx E.hb dL_feed_27 ic_4 ?_
          refine lv_idiv E.hx E.hb dL_feed_28 (by decide) ?_
          refine k_topi (y := nI (i / 4)) (pk_div (d := 4) (by omega) (by decide) (by decide)).symm ?_
          refine lv_dup2_11 E.hx E.hb dL_feed_29 rfl rfl ?_
          refine k_iald E hW 5 rfl hin5 dL_feed_30 ?_
          refine k_topi (y := gW t n9 (20 * g) i (i / 4)) (by rw [nI_clamp (by omega)]) ?_
          have JN : ∀ (H : Heap) (locs : List Loc) (ls : Array Slot) (hW : WD k A s.heap ((wMCo k a_th (a_in 0) (a_ou 0) (a_ru 0) (a_no 0) (a_fo 0) (a_rd 0) (a_pa 0) sv_th th_0 ++ wBytes k a_in 600 y ++ wStr k b v n9 f) ++ [(q1, .inl (k.2.1.1 0, 5, .inl (gW t n9 (20 * g) i)))]) H locs) (hl : lv_has ls 5 [(4, .int (nI i)), (3, .ref q1), (2, .int (nI (20 * g))), (0, .ref (a_th 0)), (1, .ref b)]), W p l e { frames := 5, cells := 40, slots := 300, locals := 120 } s m args below meth c H locs (g + 1) (5 * g + 5) Q (F0 m 55 ls [.int (chI t n9 (20 * g + i)), .int (gW t n9 (20 * g) i (i / 4)), .int (nI (i / 4)), .ref q1]) := by
            intro H locs ls hW hl
            refine lv_bipush (v := (24 : Int32)) E.hx E.hb dL_feed_55 bp_24 ?_
            refine lv_bipush (v := (8 : Int32)) E.hx E.hb dL_feed_57 bp_8 ?_
            refine k_iload E hl 0 dL_feed_59 rfl ?_
            refine lv_iconst (v := (4 : Int32)) E.hx E.hb dL_feed_61 ic_4 ?_
            refine lv_irem E.hx E.hb dL_feed_62 (by decide) ?_
            refine k_topi (y := nI (i % 4)) (sx_irem (by omega)).symm ?_
            refine lv_imul E.hx E.hb dL_feed_63 ?_
            refine k_topi (y := nI (8 * (i % 4))) (pk_mul 8 (i % 4)).symm ?_
            refine lv_isub E.hx E.hb dL_feed_64 ?_
            refine k_topi (y := nI (24 - 8 * (i % 4))) (pk_sub (a := 24) (b := 8 * (i % 4)) (by omega)).symm ?_
            refine lv_ishl E.hx E.hb dL_feed_65 ?_
            refine lv_ior E.hx E.hb dL_feed_66 ?_
            refine k_iast (ws2 := (wMCo k a_th (a_in 0) (a_ou 0) (a_ru 0) (a_no 0) (a_fo 0) (a_rd 0) (a_pa 0) sv_th th_0 ++ wBytes k a_in 600 y ++ wStr k b v n9 f) ++ [(q1, .inl (k.2.1.1 0, 5, .inl (gW t n9 (20 * g) (i + 1))))]) E hW 5 rfl hin5 dL_feed_67 (by rw [nI_clamp (by omega)]; rfl) (fun H locs hW => ?_)
            refine k_iinc (lv' := [(4, .int (nI (i + 1))), (3, .ref q1), (2, .int (nI (20 * g))), (0, .ref (a_th 0)), (1, .ref b)]) E hl 0 dL_feed_68 rfl (show nI (i + 1) = nI i + Int32.ofInt 1 from by rw [show Int32.ofInt 1 = nI 1 from by decide, nI_add]) (by decide) rfl (fun ls hl => ?_)
            refine lv_goto (tgt := 17) E.hx E.hb dL_feed_71 (by decide) ?_
            exact ih2 (i + 1) (by omega) _ _ _ hW hl
          refine k_iload_n E hl 2 dL_feed_31 rfl ?_
          refine k_iload E hl 0 dL_feed_32 rfl ?_
          refine lv_iadd E.hx E.hb dL_feed_34 ?_
          refine k_topi (y := nI (20 * g + i)) (nI_add _ _).symm ?_
          refine k_aload_n E hl 4 dL_feed_35 rfl ?_
          refine k_callVi (As := []) (rest := [.int (nI (20 * g + i)), .int (gW t n9 (20 * g) i (i / 4)), .int (nI (i / 4)), .ref q1]) (ws2 := fun _ => (wMCo k a_th (a_in 0) (a_ou 0) (a_ru 0) (a_no 0) (a_fo 0) (a_rd 0) (a_pa 0) sv_th th_0 ++ wBytes k a_in 600 y ++ wStr k b v n9 f) ++ [(q1, .inl (k.2.1.1 0, 5, .inl (gW t n9 (20 * g) i)))]) (c_mlen l k hE b v n9 f) E vl_L_15 dL_feed_36 rfl [3, 4] 0 3 hW hA hl rfl rfl rfl rfl ⟨by decide, by decide⟩ ⟨by show _ ≤ 40; omega, by show _ ≤ 300; omega⟩ (Nat.le_of_ble_eq_true rfl) rfl (fun _ => rfl) (fun _ => rfl) (fun r u H locs hp hW => ?_)
          subst hp
          refine lv_icmp_ge (tgt := 53) E.hx E.hb dL_feed_39 (by decide) (fun hc => ?_) (fun hc => ?_)
          · have h3 : n9 ≤ 20 * g + i := (nI_leI (by omega) (by omega)).mp hc
            refine lv_bipush (v := (32 : Int32)) E.hx E.hb dL_feed_53 bp_32 ?_
            refine k_topi (y := chI t n9 (20 * g + i)) (by unfold chI; rw [if_neg (by omega)]) ?_
            exact JN _ _ _ hW hl
          · have h3 : 20 * g + i < n9 := Nat.lt_of_not_le fun h => hc (nI_le h (by omega))
            obtain ⟨h8, h9⟩ := hS _ h3
            refine k_aload_n E hl 4 dL_feed_42 rfl ?_
            refine k_iload_n E hl 2 dL_feed_43 rfl ?_
            refine k_iload E hl 0 dL_feed_44 rfl ?_
            refine lv_iadd E.hx E.hb dL_feed_46 ?_
            refine k_topi (y := nI (20 * g + i)) (nI_add _ _).symm ?_
            refine k_callVi (As := [.int (nI (20 * g + i))]) (rest := [.int (gW t n9 (20 * g) i (i / 4)), .int (nI (i / 4)), .ref q1]) (ws2 := fun _ => (wMCo k a_th (a_in 0) (a_ou 0) (a_ru 0) (a_no 0) (a_fo 0) (a_rd 0) (a_pa 0) sv_th th_0 ++ wBytes k a_in 600 y ++ wStr k b v n9 f) ++ [(q1, .inl (k.2.1.1 0, 5, .inl (gW t n9 (20 * g) i)))]) (c_mat l k hE b v n9 f (20 * g + i) (t (20 * g + i)) h3 (by omega) h8 h9) E vl_L_21 dL_feed_47 rfl [3, 4] 0 3 hW hA hl rfl rfl rfl rfl ⟨by decide, by decide⟩ ⟨by show _ ≤ 40; omega, by show _ ≤ 300; omega⟩ (Nat.le_of_ble_eq_true rfl) rfl (fun _ => rfl) (fun _ => rfl) (fun r u H locs hp hW => ?_)
            subst hp
            refine lv_goto (tgt := 55) E.hx E.hb dL_feed_50 (by decide) ?_
            refine k_topi (y := chI t n9 (20 * g + i)) (by unfold chI; rw [if_pos h3]) ?_
            exact JN _ _ _ hW hl
      exact INN 20 0 rfl _ _ _ hW hl
  refine lv_iconst (v := (0 : Int32)) E.hx E.hb dL_feed_0 ic_0 ?_
  refine k_istore_n (lv' := [(2, .int (nI (20 * 0))), (0, .ref (a_th 0)), (1, .ref b)]) E (show nI (20 * 0) = (0 : Int32) from nI_0) hl dL_feed_1 rfl (by decide) rfl (fun ls hl => ?_)
  exact LOOP 12 0 in_0 rfl (by omega) (by omega) _ _ _ hW hl

set_option maxHeartbeats 4000000 in
set_option maxRecDepth 100000 in
theorem c_L_parsed (n : Nat) (l : Launch) (k : KT) (hE : EH k) (a_th a_in a_ou a_ru a_no a_fo a_rd a_rr a_pa : Nat → Nat) (pp_0 : Nat → Nat → Nat) (sv_th : Value) (th_0 in_0 ru_0 no_0 fo_0 rd_0 rr_0 : OS) (pa_0 : PS) (b v n9 : Nat) (f : Nat → Int32) (t : Nat → Nat) (hn9 : n9 ≤ 240) (hS : sb_Lat t n9 f) (in_1 : OS) (r1 : Int32) (hF : ∀ g, g ≤ (n9 + 19) / 20 → ∃ y, feedF n sv_th th_0 t n9 in_0 g = some y) (hT : ∀ y, feedF n sv_th th_0 t n9 in_0 ((n9 + 19) / 20) = some y → f_X8_truncate n sv_th th_0 600 y (nI n9) = some (in_1, r1)) (res : (OS × OS × OS × OS × OS × OS × OS × PS × Int32)) (hf : f_X8_parse n sv_th th_0 600 in_1 ru_0 no_0 fo_0 rd_0 rr_0 pa_0 = some res) : CG l k yL_parsed cL_parsed 2 (some .int) 11 40 300 260 [.ref (a_th 0), .ref b] ((wMCo k a_th (a_in 0) (a_ou 0) (a_ru 0) (a_no 0) (a_fo 0) (a_rd 0) (a_pa 0) sv_th th_0 ++ wBytes k a_in 600 in_0 ++ wRules k a_ru ru_0 ++ wCourt k a_no no_0 ++ wCourt k a_fo fo_0 ++ wReader k a_rd (a_in 0) (a_fo 0) (a_rr 0) rd_0 ++ wRules k a_rr rr_0 ++ wPast k a_pa pp_0 pa_0) ++ wStr k b v n9 f) (Qi k (fun u : (OS) × (OS) × (OS) × (OS) × (OS) × (OS) × (OS) × (PS) => (wMCo k a_th (a_in 0) (a_ou 0) (a_ru 0) (a_no 0) (a_fo 0) (a_rd 0) (a_pa 0) sv_th u.1 ++ wBytes k a_in 600 u.2.1 ++ wRules k a_ru u.2.2.1 ++ wCourt k a_no u.2.2.2.1 ++ wCourt k a_fo u.2.2.2.2.1 ++ wReader k a_rd (a_in 0) (a_fo 0) (a_rr 0) u.2.2.2.2.2.1 ++ wRules k a_rr u.2.2.2.2.2.2.1 ++ wPast k a_pa pp_0 u.2.2.2.2.2.2.2) ++ wStr k b v n9 f) (fun (r : Int32) (u : (OS) × (OS) × (OS) × (OS) × (OS) × (OS) × (OS) × (PS)) => res = (u.1, u.2.1, u.2.2.1, u.2.2.2.1, u.2.2.2.2.1, u.2.2.2.2.2.1, u.2.2.2.2.2.2.1, u.2.2.2.2.2.2.2, r))) := by
  refine CG.ofI (by decide) (Nat.le_of_ble_eq_true rfl) (fun p e s m args below meth c A Q E hnm hW hA hret ls hl => ?_)
  have hl : lv_has ls 2 [(0, .ref (a_th 0)), (1, .ref b)] := hl
  refine k_aload_n E hl 0 dL_parsed_0 rfl ?_
  refine k_aload_n E hl 1 dL_parsed_1 rfl ?_
  refine k_callSv (As := [.ref (a_th 0), .ref b]) (rest := []) (ws2 := fun u => (wMCo k a_th (a_in 0) (a_ou 0) (a_ru 0) (a_no 0) (a_fo 0) (a_rd 0) (a_pa 0) sv_th th_0 ++ wBytes k a_in 600 u ++ wRules k a_ru ru_0 ++ wCourt k a_no no_0 ++ wCourt k a_fo fo_0 ++ wReader k a_rd (a_in 0) (a_fo 0) (a_rr 0) rd_0 ++ wRules k a_rr rr_0 ++ wPast k a_pa pp_0 pa_0) ++ wStr k b v n9 f) (c_L_feed n l k hE a_th a_in a_ou a_ru a_no a_fo a_rd a_pa sv_th th_0 in_0 b v n9 f t hn9 hS in_1 r1 hF hT) E sl_L_35 dL_parsed_2 rfl (List.range' 0 3 ++ List.range' 36 2) hW hA hl rfl (by simp only [List.map_append]; exact app2 (blk_map [] (wMCo k a_th (a_in 0) (a_ou 0) (a_ru 0) (a_no 0) (a_fo 0) (a_rd 0) (a_pa 0) sv_th th_0 ++ wBytes k a_in 600 in_0) ((wRules k a_ru ru_0 ++ wCourt k a_no no_0 ++ wCourt k a_fo fo_0 ++ wReader k a_rd (a_in 0) (a_fo 0) (a_rr 0) rd_0 ++ wRules k a_rr rr_0 ++ wPast k a_pa pp_0 pa_0) ++ wStr k b v n9 f) 0 3 (by simp only [List.append_assoc, List.nil_append, List.append_nil]) rfl rfl) (blk_map (wMCo k a_th (a_in 0) (a_ou 0) (a_ru 0) (a_no 0) (a_fo 0) (a_rd 0) (a_pa 0) sv_th th_0 ++ wBytes k a_in 600 in_0 ++ wRules k a_ru ru_0 ++ wCourt k a_no no_0 ++ wCourt k a_fo fo_0 ++ wReader k a_rd (a_in 0) (a_fo 0) (a_rr 0) rd_0 ++ wRules k a_rr rr_0 ++ wPast k a_pa pp_0 pa_0) (wStr k b v n9 f) [] 36 2 (by simp only [List.append_assoc, List.nil_append, List.append_nil]) rfl rfl)) ⟨by decide, by decide⟩ ⟨by decide, by decide⟩ (Nat.le_of_ble_eq_true rfl) rfl (fun _ => rfl) (fun u => by show putW _ (_ ++ _) (_ ++ _) = _; rw [putW_app _ _ _ _ _ rfl, blk_put [] (wMCo k a_th (a_in 0) (a_ou 0) (a_ru 0) (a_no 0) (a_fo 0) (a_rd 0) (a_pa 0) sv_th th_0 ++ wBytes k a_in 600 in_0) ((wRules k a_ru ru_0 ++ wCourt k a_no no_0 ++ wCourt k a_fo fo_0 ++ wReader k a_rd (a_in 0) (a_fo 0) (a_rr 0) rd_0 ++ wRules k a_rr rr_0 ++ wPast k a_pa pp_0 pa_0) ++ wStr k b v n9 f) (wMCo k a_th (a_in 0) (a_ou 0) (a_ru 0) (a_no 0) (a_fo 0) (a_rd 0) (a_pa 0) sv_th th_0 ++ wBytes k a_in 600 u) 0 3 (by simp only [List.append_assoc, List.nil_append, List.append_nil]) rfl rfl rfl, blk_put ([] ++ (wMCo k a_th (a_in 0) (a_ou 0) (a_ru 0) (a_no 0) (a_fo 0) (a_rd 0) (a_pa 0) sv_th th_0 ++ wBytes k a_in 600 u) ++ (wRules k a_ru ru_0 ++ wCourt k a_no no_0 ++ wCourt k a_fo fo_0 ++ wReader k a_rd (a_in 0) (a_fo 0) (a_rr 0) rd_0 ++ wRules k a_rr rr_0 ++ wPast k a_pa pp_0 pa_0)) (wStr k b v n9 f) [] (wStr k b v n9 f) 36 2 (by simp only [List.append_assoc, List.nil_append, List.append_nil]) rfl rfl rfl]; try simp only [List.append_assoc, List.nil_append, List.append_nil]) (fun u H locs hp hW => ?_)
  subst hp
  refine k_aload_n E hl 0 dL_parsed_5 rfl ?_
  refine k_callVi (As := []) (rest := []) (ws2 := fun u => (wMCo k a_th (a_in 0) (a_ou 0) (a_ru 0) (a_no 0) (a_fo 0) (a_rd 0) (a_pa 0) sv_th u.1 ++ wBytes k a_in 600 u.2.1 ++ wRules k a_ru u.2.2.1 ++ wCourt k a_no u.2.2.2.1 ++ wCourt k a_fo u.2.2.2.2.1 ++ wReader k a_rd (a_in 0) (a_fo 0) (a_rr 0) u.2.2.2.2.2.1 ++ wRules k a_rr u.2.2.2.2.2.2.1 ++ wPast k a_pa pp_0 u.2.2.2.2.2.2.2) ++ wStr k b v n9 f) (c_X8_parse n l k hE a_th a_in a_ou a_ru a_no a_fo a_rd a_rr a_pa pp_0 sv_th th_0 600 in_1 ru_0 no_0 fo_0 rd_0 rr_0 pa_0 res hf) E vl_L_38 dL_parsed_6 rfl (List.range' 0 36) 8 0 hW hA hl rfl (blk_map [] (wMCo k a_th (a_in 0) (a_ou 0) (a_ru 0) (a_no 0) (a_fo 0) (a_rd 0) (a_pa 0) sv_th th_0 ++ wBytes k a_in 600 in_1 ++ wRules k a_ru ru_0 ++ wCourt k a_no no_0 ++ wCourt k a_fo fo_0 ++ wReader k a_rd (a_in 0) (a_fo 0) (a_rr 0) rd_0 ++ wRules k a_rr rr_0 ++ wPast k a_pa pp_0 pa_0) (wStr k b v n9 f) 0 36 (by simp only [List.append_assoc, List.nil_append, List.append_nil]) rfl rfl) rfl rfl ⟨by decide, by decide⟩ ⟨by decide, by decide⟩ (Nat.le_of_ble_eq_true rfl) rfl (fun _ => rfl) (fun u => by rw [blk_put [] (wMCo k a_th (a_in 0) (a_ou 0) (a_ru 0) (a_no 0) (a_fo 0) (a_rd 0) (a_pa 0) sv_th th_0 ++ wBytes k a_in 600 in_1 ++ wRules k a_ru ru_0 ++ wCourt k a_no no_0 ++ wCourt k a_fo fo_0 ++ wReader k a_rd (a_in 0) (a_fo 0) (a_rr 0) rd_0 ++ wRules k a_rr rr_0 ++ wPast k a_pa pp_0 pa_0) (wStr k b v n9 f) (wMCo k a_th (a_in 0) (a_ou 0) (a_ru 0) (a_no 0) (a_fo 0) (a_rd 0) (a_pa 0) sv_th u.1 ++ wBytes k a_in 600 u.2.1 ++ wRules k a_ru u.2.2.1 ++ wCourt k a_no u.2.2.2.1 ++ wCourt k a_fo u.2.2.2.2.1 ++ wReader k a_rd (a_in 0) (a_fo 0) (a_rr 0) u.2.2.2.2.2.1 ++ wRules k a_rr u.2.2.2.2.2.2.1 ++ wPast k a_pa pp_0 u.2.2.2.2.2.2.2) 0 36 (by simp only [List.append_assoc, List.nil_append, List.append_nil]) rfl rfl rfl]; try simp only [List.append_assoc, List.nil_append, List.append_nil]) (fun r u H locs hp hW => ?_)
  exact hret r u _ _ _ _ _ _ hW hp rfl (by decide) (by decide) dL_parsed_9

