def dgOne (i : Nat) : Int32 := nI (48 + i % 10)
def dgTen (i : Nat) : Int32 := nI (48 + i / 10)
def DGH (k : KT) : Prop := ∀ (A : Nat → Prop) (U : State) (H : Heap), k.2.2 A U H → (∃ t : Nat, va_Z "java/lang/Integer" "DigitOnes" "[B" (.ref t) A U H ∧ va_T .byte t 100 (fun i => .int (dgOne i)) A U H) ∧ ∃ t : Nat, va_Z "java/lang/Integer" "DigitTens" "[B" (.ref t) A U H ∧ va_T .byte t 100 (fun i => .int (dgTen i)) A U H
theorem dJ6_stringSize_0f7a4_0 : decode cJ6_stringSize_0f7a4 0 = .ok (.iconst 1, 1) := by decide +kernel
theorem dJ6_stringSize_0f7a4_1 : decode cJ6_stringSize_0f7a4 1 = .ok (.istore_n 1, 1) := by decide +kernel
theorem dJ6_stringSize_0f7a4_2 : decode cJ6_stringSize_0f7a4 2 = .ok (.iload_n 0, 1) := by decide +kernel
theorem dJ6_stringSize_0f7a4_3 : decode cJ6_stringSize_0f7a4 3 = .ok (.ifCond .lt 8, 3) := by decide +kernel
theorem dJ6_stringSize_0f7a4_6 : decode cJ6_stringSize_0f7a4 6 = .ok (.iconst 0, 1) := by decide +kernel
theorem dJ6_stringSize_0f7a4_7 : decode cJ6_stringSize_0f7a4 7 = .ok (.istore_n 1, 1) := by decide +kernel
theorem dJ6_stringSize_0f7a4_8 : decode cJ6_stringSize_0f7a4 8 = .ok (.iload_n 0, 1) := by decide +kernel
theorem dJ6_stringSize_0f7a4_9 : decode cJ6_stringSize_0f7a4 9 = .ok (.ineg, 1) := by decide +kernel
theorem dJ6_stringSize_0f7a4_10 : decode cJ6_stringSize_0f7a4 10 = .ok (.istore_n 0, 1) := by decide +kernel
theorem dJ6_stringSize_0f7a4_11 : decode cJ6_stringSize_0f7a4 11 = .ok (.bipush (-10), 2) := by decide +kernel
theorem dJ6_stringSize_0f7a4_13 : decode cJ6_stringSize_0f7a4 13 = .ok (.istore_n 2, 1) := by decide +kernel
theorem dJ6_stringSize_0f7a4_14 : decode cJ6_stringSize_0f7a4 14 = .ok (.iconst 1, 1) := by decide +kernel
theorem dJ6_stringSize_0f7a4_15 : decode cJ6_stringSize_0f7a4 15 = .ok (.istore_n 3, 1) := by decide +kernel
theorem dJ6_stringSize_0f7a4_16 : decode cJ6_stringSize_0f7a4 16 = .ok (.iload_n 3, 1) := by decide +kernel
theorem dJ6_stringSize_0f7a4_17 : decode cJ6_stringSize_0f7a4 17 = .ok (.bipush 10, 2) := by decide +kernel
theorem dJ6_stringSize_0f7a4_19 : decode cJ6_stringSize_0f7a4 19 = .ok (.if_icmp .ge 23, 3) := by decide +kernel
theorem dJ6_stringSize_0f7a4_22 : decode cJ6_stringSize_0f7a4 22 = .ok (.iload_n 0, 1) := by decide +kernel
theorem dJ6_stringSize_0f7a4_23 : decode cJ6_stringSize_0f7a4 23 = .ok (.iload_n 2, 1) := by decide +kernel
theorem dJ6_stringSize_0f7a4_24 : decode cJ6_stringSize_0f7a4 24 = .ok (.if_icmp .le 7, 3) := by decide +kernel
theorem dJ6_stringSize_0f7a4_27 : decode cJ6_stringSize_0f7a4 27 = .ok (.iload_n 3, 1) := by decide +kernel
theorem dJ6_stringSize_0f7a4_28 : decode cJ6_stringSize_0f7a4 28 = .ok (.iload_n 1, 1) := by decide +kernel
theorem dJ6_stringSize_0f7a4_29 : decode cJ6_stringSize_0f7a4 29 = .ok (.iadd, 1) := by decide +kernel
theorem dJ6_stringSize_0f7a4_30 : decode cJ6_stringSize_0f7a4 30 = .ok (.ireturn, 1) := by decide +kernel
theorem dJ6_stringSize_0f7a4_31 : decode cJ6_stringSize_0f7a4 31 = .ok (.bipush 10, 2) := by decide +kernel
theorem dJ6_stringSize_0f7a4_33 : decode cJ6_stringSize_0f7a4 33 = .ok (.iload_n 2, 1) := by decide +kernel
theorem dJ6_stringSize_0f7a4_34 : decode cJ6_stringSize_0f7a4 34 = .ok (.imul, 1) := by decide +kernel
theorem dJ6_stringSize_0f7a4_35 : decode cJ6_stringSize_0f7a4 35 = .ok (.istore_n 2, 1) := by decide +kernel
theorem dJ6_stringSize_0f7a4_36 : decode cJ6_stringSize_0f7a4 36 = .ok (.iinc 3 1, 3) := by decide +kernel
theorem dJ6_stringSize_0f7a4_39 : decode cJ6_stringSize_0f7a4 39 = .ok (.goto (-23), 3) := by decide +kernel
theorem dJ6_stringSize_0f7a4_42 : decode cJ6_stringSize_0f7a4 42 = .ok (.bipush 10, 2) := by decide +kernel
theorem dJ6_stringSize_0f7a4_44 : decode cJ6_stringSize_0f7a4 44 = .ok (.iload_n 1, 1) := by decide +kernel
theorem dJ6_stringSize_0f7a4_45 : decode cJ6_stringSize_0f7a4 45 = .ok (.iadd, 1) := by decide +kernel
theorem dJ6_stringSize_0f7a4_46 : decode cJ6_stringSize_0f7a4 46 = .ok (.ireturn, 1) := by decide +kernel
def s_J6_stringSize_0f7a4_16 (n : Nat) (w0_j16 : Int32) (w1_j16 : Int32) (rc_16 : (Int32) → (Int32) → Option (Int32)) (w2_j16 : Int32) (w3_j16 : Int32) : Option (Int32) :=
  if (10 : Int32) ≤ w3_j16 then (
  some ((10 : Int32) + w1_j16)) else (
  if w0_j16 ≤ w2_j16 then (
  Let ((10 : Int32) * w2_j16) (fun v2_1 : Int32 =>
  Let (w3_j16 + (1 : Int32)) (fun v3_2 : Int32 =>
  rc_16 v2_1 v3_2))) else (
  some (w3_j16 + w1_j16)))
def l_J6_stringSize_0f7a4_16 (n : Nat) (w0_j16 : Int32) (w1_j16 : Int32) : Nat → (Int32) → (Int32) → Option (Int32)
  | 0 => fun _ _ => none
  | N + 1 => s_J6_stringSize_0f7a4_16 n w0_j16 w1_j16 (l_J6_stringSize_0f7a4_16 n w0_j16 w1_j16 N)
def j_J6_stringSize_0f7a4_11 (n : Nat) (w0_j11 : Int32) (w1_j11 : Int32) : Option (Int32) :=
  l_J6_stringSize_0f7a4_16 n w0_j11 w1_j11 n (-10 : Int32) (1 : Int32)
def f_J6_stringSize_0f7a4 (n : Nat) (v0_0 : Int32) : Option (Int32) :=
  if v0_0 < 0 then (
  j_J6_stringSize_0f7a4_11 n v0_0 (1 : Int32)) else (
  Let (-v0_0) (fun v0_3 : Int32 =>
  j_J6_stringSize_0f7a4_11 n v0_3 (0 : Int32)))
set_option maxHeartbeats 4000000 in
set_option maxRecDepth 100000 in
theorem c_J6_stringSize_0f7a4 (n : Nat) (l : Launch) (k : KT)  (v0_0 : Int32) (res : (Int32)) (hf : f_J6_stringSize_0f7a4 n v0_0 = some res) : CG l k yJ6_stringSize_0f7a4 cJ6_stringSize_0f7a4 4 (some .int) 0 0 0 0 [.int v0_0] ([]) (Qi k (fun u : Unit => []) (fun (r : Int32) (u : Unit) => res = r)) := by
  refine CG.ofI (by decide) (Nat.le_of_ble_eq_true rfl) (fun p e s m args below meth c A Q E hnm hW hA hret ls hl => ?_)
  have hl : lv_has ls 4 [(0, .int v0_0)] := hl
  unfold f_J6_stringSize_0f7a4 at hf
  refine lv_iconst (v := (1 : Int32)) E.hx E.hb dJ6_stringSize_0f7a4_0 ic_1 ?_
  refine k_istore_n (lv' := [(1, .int (1 : Int32)), (0, .int v0_0)]) E rfl hl dJ6_stringSize_0f7a4_1 rfl (by decide) rfl (fun ls hl => ?_)
  refine k_iload_n E hl 1 dJ6_stringSize_0f7a4_2 rfl ?_
  have J_11 : ∀ (w0_j11 : Int32) (w1_j11 : Int32) (H : Heap) (locs : List Loc) (ls : Array Slot) (hW : WD k A s.heap ([]) H locs) (hl : lv_has ls 4 [(0, .int w0_j11), (1, .int w1_j11)]) (hf : j_J6_stringSize_0f7a4_11 n  w0_j11 w1_j11 = some res), W p l e { frames := 0, cells := 0, slots := 0, locals := 0 } s m args below meth c H locs 0 0 Q (F0 m 11 ls []) := by
    intro w0_j11 w1_j11 H locs ls hW hl hf
    unfold j_J6_stringSize_0f7a4_11 at hf
    refine lv_bipush (v := (-10 : Int32)) E.hx E.hb dJ6_stringSize_0f7a4_11 bp_m10 ?_
    refine k_istore_n (lv' := [(2, .int (-10 : Int32)), (0, .int w0_j11), (1, .int w1_j11)]) E rfl hl dJ6_stringSize_0f7a4_13 rfl (by decide) rfl (fun ls hl => ?_)
    refine lv_iconst (v := (1 : Int32)) E.hx E.hb dJ6_stringSize_0f7a4_14 ic_1 ?_
    refine k_istore_n (lv' := [(3, .int (1 : Int32)), (2, .int (-10 : Int32)), (0, .int w0_j11), (1, .int w1_j11)]) E rfl hl dJ6_stringSize_0f7a4_15 rfl (by decide) rfl (fun ls hl => ?_)
    have L_16 : ∀ (N_16 : Nat) (w2_j16 : Int32) (w3_j16 : Int32) (H : Heap) (locs : List Loc) (ls : Array Slot) (hW : WD k A s.heap ([]) H locs) (hl : lv_has ls 4 [(0, .int w0_j11), (1, .int w1_j11), (2, .int w2_j16), (3, .int w3_j16)]) (hf : l_J6_stringSize_0f7a4_16 n w0_j11 w1_j11 N_16 w2_j16 w3_j16 = some res), W p l e { frames := 0, cells := 0, slots := 0, locals := 0 } s m args below meth c H locs 0 0 Q (F0 m 16 ls []) := by
      intro N_16
      induction N_16 with
      | zero => intro w2_j16 w3_j16 H locs ls hW hl hf; exact o0 hf
      | succ N_16 ih_16 =>
        intro w2_j16 w3_j16 H locs ls hW hl hf
        have hf : s_J6_stringSize_0f7a4_16 n w0_j11 w1_j11 (l_J6_stringSize_0f7a4_16 n w0_j11 w1_j11 N_16) w2_j16 w3_j16 = some res := hf
        unfold s_J6_stringSize_0f7a4_16 at hf
        refine k_iload_n E hl 3 dJ6_stringSize_0f7a4_16 rfl ?_
        refine lv_bipush (v := (10 : Int32)) E.hx E.hb dJ6_stringSize_0f7a4_17 bp_10 ?_
        refine lv_icmp_ge (tgt := 42) E.hx E.hb dJ6_stringSize_0f7a4_19 (by decide) (fun hc => ?_) (fun hc => ?_)
        · have hf := oT hc hf
          refine lv_bipush (v := (10 : Int32)) E.hx E.hb dJ6_stringSize_0f7a4_42 bp_10 ?_
          refine k_iload_n E hl 1 dJ6_stringSize_0f7a4_44 rfl ?_
          refine lv_iadd E.hx E.hb dJ6_stringSize_0f7a4_45 ?_
          exact hret _ () _ _ _ _ _ _ hW (Option.some.inj hf).symm rfl (by decide) (by decide) dJ6_stringSize_0f7a4_46
        · have hf := oF hc hf
          refine k_iload_n E hl 0 dJ6_stringSize_0f7a4_22 rfl ?_
          refine k_iload_n E hl 2 dJ6_stringSize_0f7a4_23 rfl ?_
          refine lv_icmp_le (tgt := 31) E.hx E.hb dJ6_stringSize_0f7a4_24 (by decide) (fun hc => ?_) (fun hc => ?_)
          · have hf := oT hc hf
            refine lv_bipush (v := (10 : Int32)) E.hx E.hb dJ6_stringSize_0f7a4_31 bp_10 ?_
            refine k_iload_n E hl 2 dJ6_stringSize_0f7a4_33 rfl ?_
            refine lv_imul E.hx E.hb dJ6_stringSize_0f7a4_34 ?_
            obtain ⟨v2_1, ev2_1, hf⟩ := oL hf
            refine k_istore_n (lv' := [(2, .int v2_1), (0, .int w0_j11), (1, .int w1_j11), (3, .int w3_j16)]) E ev2_1 hl dJ6_stringSize_0f7a4_35 rfl (by decide) rfl (fun ls hl => ?_)
            obtain ⟨v3_2, ev3_2, hf⟩ := oL hf
            refine k_iinc (lv' := [(3, .int v3_2), (2, .int v2_1), (0, .int w0_j11), (1, .int w1_j11)]) E hl 3 dJ6_stringSize_0f7a4_36 rfl (ev3_2.trans (congrArg (fun z => w3_j16 + z) ic_1.symm)) (by decide) rfl (fun ls hl => ?_)
            refine lv_goto (tgt := 16) E.hx E.hb dJ6_stringSize_0f7a4_39 (by decide) ?_
            exact ih_16 v2_1 v3_2 _ _ _ hW (lv_sub hl [2, 3, 1, 0] rfl) hf
          · have hf := oF hc hf
            refine k_iload_n E hl 3 dJ6_stringSize_0f7a4_27 rfl ?_
            refine k_iload_n E hl 1 dJ6_stringSize_0f7a4_28 rfl ?_
            refine lv_iadd E.hx E.hb dJ6_stringSize_0f7a4_29 ?_
            exact hret _ () _ _ _ _ _ _ hW (Option.some.inj hf).symm rfl (by decide) (by decide) dJ6_stringSize_0f7a4_30
    exact L_16 n (-10 : Int32) (1 : Int32) _ _ _ hW (lv_sub hl [2, 3, 1, 0] rfl) hf
  refine lv_if_lt (tgt := 11) E.hx E.hb dJ6_stringSize_0f7a4_3 (by decide) (fun hc => ?_) (fun hc => ?_)
  · have hf := oT hc hf
    exact J_11 v0_0 (1 : Int32) _ _ _ hW (lv_sub hl [1, 0] rfl) hf
  · have hf := oF hc hf
    refine lv_iconst (v := (0 : Int32)) E.hx E.hb dJ6_stringSize_0f7a4_6 ic_0 ?_
    refine k_istore_n (lv' := [(1, .int (0 : Int32)), (0, .int v0_0)]) E rfl hl dJ6_stringSize_0f7a4_7 rfl (by decide) rfl (fun ls hl => ?_)
    refine k_iload_n E hl 1 dJ6_stringSize_0f7a4_8 rfl ?_
    refine lv_ineg E.hx E.hb dJ6_stringSize_0f7a4_9 ?_
    obtain ⟨v0_3, ev0_3, hf⟩ := oL hf
    refine k_istore_n (lv' := [(0, .int v0_3), (1, .int (0 : Int32))]) E ev0_3 hl dJ6_stringSize_0f7a4_10 rfl (by decide) rfl (fun ls hl => ?_)
    exact J_11 v0_3 (0 : Int32) _ _ _ hW (lv_sub hl [0, 1] rfl) hf
theorem dJ6_getChars_ba4f3_0 : decode cJ6_getChars_ba4f3 0 = .ok (.iload_n 1, 1) := by decide +kernel
theorem dJ6_getChars_ba4f3_1 : decode cJ6_getChars_ba4f3 1 = .ok (.istore 5, 2) := by decide +kernel
theorem dJ6_getChars_ba4f3_3 : decode cJ6_getChars_ba4f3 3 = .ok (.iload_n 0, 1) := by decide +kernel
theorem dJ6_getChars_ba4f3_4 : decode cJ6_getChars_ba4f3 4 = .ok (.ifCond .ge 7, 3) := by decide +kernel
theorem dJ6_getChars_ba4f3_7 : decode cJ6_getChars_ba4f3 7 = .ok (.iconst 1, 1) := by decide +kernel
theorem dJ6_getChars_ba4f3_8 : decode cJ6_getChars_ba4f3 8 = .ok (.goto 4, 3) := by decide +kernel
theorem dJ6_getChars_ba4f3_11 : decode cJ6_getChars_ba4f3 11 = .ok (.iconst 0, 1) := by decide +kernel
theorem dJ6_getChars_ba4f3_12 : decode cJ6_getChars_ba4f3 12 = .ok (.istore 6, 2) := by decide +kernel
theorem dJ6_getChars_ba4f3_14 : decode cJ6_getChars_ba4f3 14 = .ok (.iload 6, 2) := by decide +kernel
theorem dJ6_getChars_ba4f3_16 : decode cJ6_getChars_ba4f3 16 = .ok (.ifCond .ne 6, 3) := by decide +kernel
theorem dJ6_getChars_ba4f3_19 : decode cJ6_getChars_ba4f3 19 = .ok (.iload_n 0, 1) := by decide +kernel
theorem dJ6_getChars_ba4f3_20 : decode cJ6_getChars_ba4f3 20 = .ok (.ineg, 1) := by decide +kernel
theorem dJ6_getChars_ba4f3_21 : decode cJ6_getChars_ba4f3 21 = .ok (.istore_n 0, 1) := by decide +kernel
theorem dJ6_getChars_ba4f3_22 : decode cJ6_getChars_ba4f3 22 = .ok (.iload_n 0, 1) := by decide +kernel
theorem dJ6_getChars_ba4f3_23 : decode cJ6_getChars_ba4f3 23 = .ok (.bipush (-100), 2) := by decide +kernel
theorem dJ6_getChars_ba4f3_25 : decode cJ6_getChars_ba4f3 25 = .ok (.if_icmp .gt 47, 3) := by decide +kernel
theorem dJ6_getChars_ba4f3_28 : decode cJ6_getChars_ba4f3 28 = .ok (.iload_n 0, 1) := by decide +kernel
theorem dJ6_getChars_ba4f3_29 : decode cJ6_getChars_ba4f3 29 = .ok (.bipush 100, 2) := by decide +kernel
theorem dJ6_getChars_ba4f3_31 : decode cJ6_getChars_ba4f3 31 = .ok (.idiv, 1) := by decide +kernel
theorem dJ6_getChars_ba4f3_32 : decode cJ6_getChars_ba4f3 32 = .ok (.istore_n 3, 1) := by decide +kernel
theorem dJ6_getChars_ba4f3_33 : decode cJ6_getChars_ba4f3 33 = .ok (.iload_n 3, 1) := by decide +kernel
theorem dJ6_getChars_ba4f3_34 : decode cJ6_getChars_ba4f3 34 = .ok (.bipush 100, 2) := by decide +kernel
theorem dJ6_getChars_ba4f3_36 : decode cJ6_getChars_ba4f3 36 = .ok (.imul, 1) := by decide +kernel
theorem dJ6_getChars_ba4f3_37 : decode cJ6_getChars_ba4f3 37 = .ok (.iload_n 0, 1) := by decide +kernel
theorem dJ6_getChars_ba4f3_38 : decode cJ6_getChars_ba4f3 38 = .ok (.isub, 1) := by decide +kernel
theorem dJ6_getChars_ba4f3_39 : decode cJ6_getChars_ba4f3 39 = .ok (.istore 4, 2) := by decide +kernel
theorem dJ6_getChars_ba4f3_41 : decode cJ6_getChars_ba4f3 41 = .ok (.iload_n 3, 1) := by decide +kernel
theorem dJ6_getChars_ba4f3_42 : decode cJ6_getChars_ba4f3 42 = .ok (.istore_n 0, 1) := by decide +kernel
theorem dJ6_getChars_ba4f3_43 : decode cJ6_getChars_ba4f3 43 = .ok (.aload_n 2, 1) := by decide +kernel
theorem dJ6_getChars_ba4f3_44 : decode cJ6_getChars_ba4f3 44 = .ok (.iinc 5 (-1), 3) := by decide +kernel
theorem dJ6_getChars_ba4f3_47 : decode cJ6_getChars_ba4f3 47 = .ok (.iload 5, 2) := by decide +kernel
theorem dJ6_getChars_ba4f3_49 : decode cJ6_getChars_ba4f3 49 = .ok (.getstatic 83, 3) := by decide +kernel
theorem dJ6_getChars_ba4f3_52 : decode cJ6_getChars_ba4f3 52 = .ok (.iload 4, 2) := by decide +kernel
theorem dJ6_getChars_ba4f3_54 : decode cJ6_getChars_ba4f3 54 = .ok (.baload, 1) := by decide +kernel
theorem dJ6_getChars_ba4f3_55 : decode cJ6_getChars_ba4f3 55 = .ok (.bastore, 1) := by decide +kernel
theorem dJ6_getChars_ba4f3_56 : decode cJ6_getChars_ba4f3 56 = .ok (.aload_n 2, 1) := by decide +kernel
theorem dJ6_getChars_ba4f3_57 : decode cJ6_getChars_ba4f3 57 = .ok (.iinc 5 (-1), 3) := by decide +kernel
theorem dJ6_getChars_ba4f3_60 : decode cJ6_getChars_ba4f3 60 = .ok (.iload 5, 2) := by decide +kernel
theorem dJ6_getChars_ba4f3_62 : decode cJ6_getChars_ba4f3 62 = .ok (.getstatic 87, 3) := by decide +kernel
theorem dJ6_getChars_ba4f3_65 : decode cJ6_getChars_ba4f3 65 = .ok (.iload 4, 2) := by decide +kernel
theorem dJ6_getChars_ba4f3_67 : decode cJ6_getChars_ba4f3 67 = .ok (.baload, 1) := by decide +kernel
theorem dJ6_getChars_ba4f3_68 : decode cJ6_getChars_ba4f3 68 = .ok (.bastore, 1) := by decide +kernel
theorem dJ6_getChars_ba4f3_69 : decode cJ6_getChars_ba4f3 69 = .ok (.goto (-47), 3) := by decide +kernel
theorem dJ6_getChars_ba4f3_72 : decode cJ6_getChars_ba4f3 72 = .ok (.aload_n 2, 1) := by decide +kernel
theorem dJ6_getChars_ba4f3_73 : decode cJ6_getChars_ba4f3 73 = .ok (.iinc 5 (-1), 3) := by decide +kernel
theorem dJ6_getChars_ba4f3_76 : decode cJ6_getChars_ba4f3 76 = .ok (.iload 5, 2) := by decide +kernel
theorem dJ6_getChars_ba4f3_78 : decode cJ6_getChars_ba4f3 78 = .ok (.getstatic 83, 3) := by decide +kernel
theorem dJ6_getChars_ba4f3_81 : decode cJ6_getChars_ba4f3 81 = .ok (.iload_n 0, 1) := by decide +kernel
theorem dJ6_getChars_ba4f3_82 : decode cJ6_getChars_ba4f3 82 = .ok (.ineg, 1) := by decide +kernel
theorem dJ6_getChars_ba4f3_83 : decode cJ6_getChars_ba4f3 83 = .ok (.baload, 1) := by decide +kernel
theorem dJ6_getChars_ba4f3_84 : decode cJ6_getChars_ba4f3 84 = .ok (.bastore, 1) := by decide +kernel
theorem dJ6_getChars_ba4f3_85 : decode cJ6_getChars_ba4f3 85 = .ok (.iload_n 0, 1) := by decide +kernel
theorem dJ6_getChars_ba4f3_86 : decode cJ6_getChars_ba4f3 86 = .ok (.bipush (-9), 2) := by decide +kernel
theorem dJ6_getChars_ba4f3_88 : decode cJ6_getChars_ba4f3 88 = .ok (.if_icmp .ge 16, 3) := by decide +kernel
theorem dJ6_getChars_ba4f3_91 : decode cJ6_getChars_ba4f3 91 = .ok (.aload_n 2, 1) := by decide +kernel
theorem dJ6_getChars_ba4f3_92 : decode cJ6_getChars_ba4f3 92 = .ok (.iinc 5 (-1), 3) := by decide +kernel
theorem dJ6_getChars_ba4f3_95 : decode cJ6_getChars_ba4f3 95 = .ok (.iload 5, 2) := by decide +kernel
theorem dJ6_getChars_ba4f3_97 : decode cJ6_getChars_ba4f3 97 = .ok (.getstatic 87, 3) := by decide +kernel
theorem dJ6_getChars_ba4f3_100 : decode cJ6_getChars_ba4f3 100 = .ok (.iload_n 0, 1) := by decide +kernel
theorem dJ6_getChars_ba4f3_101 : decode cJ6_getChars_ba4f3 101 = .ok (.ineg, 1) := by decide +kernel
theorem dJ6_getChars_ba4f3_102 : decode cJ6_getChars_ba4f3 102 = .ok (.baload, 1) := by decide +kernel
theorem dJ6_getChars_ba4f3_103 : decode cJ6_getChars_ba4f3 103 = .ok (.bastore, 1) := by decide +kernel
theorem dJ6_getChars_ba4f3_104 : decode cJ6_getChars_ba4f3 104 = .ok (.iload 6, 2) := by decide +kernel
theorem dJ6_getChars_ba4f3_106 : decode cJ6_getChars_ba4f3 106 = .ok (.ifCond .eq 12, 3) := by decide +kernel
theorem dJ6_getChars_ba4f3_109 : decode cJ6_getChars_ba4f3 109 = .ok (.aload_n 2, 1) := by decide +kernel
theorem dJ6_getChars_ba4f3_110 : decode cJ6_getChars_ba4f3 110 = .ok (.iinc 5 (-1), 3) := by decide +kernel
theorem dJ6_getChars_ba4f3_113 : decode cJ6_getChars_ba4f3 113 = .ok (.iload 5, 2) := by decide +kernel
theorem dJ6_getChars_ba4f3_115 : decode cJ6_getChars_ba4f3 115 = .ok (.bipush 45, 2) := by decide +kernel
theorem dJ6_getChars_ba4f3_117 : decode cJ6_getChars_ba4f3 117 = .ok (.bastore, 1) := by decide +kernel
theorem dJ6_getChars_ba4f3_118 : decode cJ6_getChars_ba4f3 118 = .ok (.iload 5, 2) := by decide +kernel
theorem dJ6_getChars_ba4f3_120 : decode cJ6_getChars_ba4f3 120 = .ok (.ireturn, 1) := by decide +kernel
def j_J6_getChars_ba4f3_104 (n : Nat) (z_p2 : Nat) (p2_j104 : Nat → Int32) (w5_j104 : Int32) (w6_j104 : Int32) : Option ((Nat → Int32) × Int32) :=
  if w6_j104 = 0 then (
  some (p2_j104, w5_j104)) else (
  Let (w5_j104 + (-1 : Int32)) (fun v5_4 : Int32 =>
  gI z_p2 v5_4 (Let (upd p2_j104 v5_4.toNatClampNeg (vp_nar .byte (45 : Int32))) (fun p2_5 : Nat → Int32 =>
  some (p2_5, v5_4)))))
def j_J6_getChars_ba4f3_72 (n : Nat) (z_p2 : Nat) (p2_j72 : Nat → Int32) (w0_j72 : Int32) (w5_j72 : Int32) (w6_j72 : Int32) : Option ((Nat → Int32) × Int32) :=
  Let (w5_j72 + (-1 : Int32)) (fun v5_1 : Int32 =>
  gI 100 (-w0_j72) (Let (dgOne (-w0_j72).toNatClampNeg) (fun x_2 : Int32 =>
  gI z_p2 v5_1 (Let (upd p2_j72 v5_1.toNatClampNeg (vp_nar .byte x_2)) (fun p2_3 : Nat → Int32 =>
  if (-9 : Int32) ≤ w0_j72 then (
  j_J6_getChars_ba4f3_104 n z_p2 p2_3 v5_1 w6_j72) else (
  Let (v5_1 + (-1 : Int32)) (fun v5_6 : Int32 =>
  gI 100 (-w0_j72) (Let (dgTen (-w0_j72).toNatClampNeg) (fun x_7 : Int32 =>
  gI z_p2 v5_6 (Let (upd p2_3 v5_6.toNatClampNeg (vp_nar .byte x_7)) (fun p2_8 : Nat → Int32 =>
  j_J6_getChars_ba4f3_104 n z_p2 p2_8 v5_6 w6_j72)))))))))))
def s_J6_getChars_ba4f3_22 (n : Nat) (z_p2 : Nat) (rc_22 : (Nat → Int32) → (Int32) → (Int32) → (Int32) → Option ((Nat → Int32) × Int32)) (p2_j22 : Nat → Int32) (w0_j22 : Int32) (w5_j22 : Int32) (w6_j22 : Int32) : Option ((Nat → Int32) × Int32) :=
  if (-100 : Int32) < w0_j22 then (
  j_J6_getChars_ba4f3_72 n z_p2 p2_j22 w0_j22 w5_j22 w6_j22) else (
  Let (w0_j22 / (100 : Int32)) (fun v3_9 : Int32 =>
  Let ((v3_9 * (100 : Int32)) - w0_j22) (fun v4_10 : Int32 =>
  Let (w5_j22 + (-1 : Int32)) (fun v5_11 : Int32 =>
  gI 100 v4_10 (Let (dgOne v4_10.toNatClampNeg) (fun x_12 : Int32 =>
  gI z_p2 v5_11 (Let (upd p2_j22 v5_11.toNatClampNeg (vp_nar .byte x_12)) (fun p2_13 : Nat → Int32 =>
  Let (v5_11 + (-1 : Int32)) (fun v5_14 : Int32 =>
  gI 100 v4_10 (Let (dgTen v4_10.toNatClampNeg) (fun x_15 : Int32 =>
  gI z_p2 v5_14 (Let (upd p2_13 v5_14.toNatClampNeg (vp_nar .byte x_15)) (fun p2_16 : Nat → Int32 =>
  rc_22 p2_16 v3_9 v5_14 w6_j22)))))))))))))
def l_J6_getChars_ba4f3_22 (n : Nat) (z_p2 : Nat) : Nat → (Nat → Int32) → (Int32) → (Int32) → (Int32) → Option ((Nat → Int32) × Int32)
  | 0 => fun _ _ _ _ => none
  | N + 1 => s_J6_getChars_ba4f3_22 n z_p2 (l_J6_getChars_ba4f3_22 n z_p2 N)
def j_J6_getChars_ba4f3_12 (n : Nat) (z_p2 : Nat) (p2_j12 : Nat → Int32) (w0_j12 : Int32) (w5_j12 : Int32) (s0_j12 : Int32) : Option ((Nat → Int32) × Int32) :=
  if s0_j12 = 0 then (
  Let (-w0_j12) (fun v0_17 : Int32 =>
  l_J6_getChars_ba4f3_22 n z_p2 n p2_j12 v0_17 w5_j12 s0_j12)) else (
  l_J6_getChars_ba4f3_22 n z_p2 n p2_j12 w0_j12 w5_j12 s0_j12)
def f_J6_getChars_ba4f3 (n : Nat) (z_p2 : Nat) (p2_0 : Nat → Int32) (v0_0 : Int32) (v1_0 : Int32) : Option ((Nat → Int32) × Int32) :=
  if 0 ≤ v0_0 then (
  j_J6_getChars_ba4f3_12 n z_p2 p2_0 v0_0 v1_0 (0 : Int32)) else (
  j_J6_getChars_ba4f3_12 n z_p2 p2_0 v0_0 v1_0 (1 : Int32))
set_option maxHeartbeats 4000000 in
set_option maxRecDepth 100000 in
theorem c_J6_getChars_ba4f3 (n : Nat) (l : Launch) (k : KT) (hG : DGH k) (a_p2 : Nat → Nat) (z_p2 : Nat) (p2_0 : Nat → Int32) (v0_0 : Int32) (v1_0 : Int32) (res : ((Nat → Int32) × Int32)) (hf : f_J6_getChars_ba4f3 n z_p2 p2_0 v0_0 v1_0 = some res) : CG l k yJ6_getChars_ba4f3 cJ6_getChars_ba4f3 7 (some .int) 0 0 0 0 [.int v0_0, .int v1_0, .ref (a_p2 0)] (wBArr k a_p2 z_p2 p2_0) (Qi k (fun u : Nat → Int32 => wBArr k a_p2 z_p2 u) (fun (r : Int32) (u : Nat → Int32) => res = (u, r))) := by
  refine CG.ofI (by decide) (Nat.le_of_ble_eq_true rfl) (fun p e s m args below meth c A Q E hnm hW hA hret ls hl => ?_)
  have hl : lv_has ls 7 [(0, .int v0_0), (1, .int v1_0), (2, .ref (a_p2 0))] := hl
  unfold f_J6_getChars_ba4f3 at hf
  refine k_iload_n E hl 1 dJ6_getChars_ba4f3_0 rfl ?_
  refine k_istore (lv' := [(5, .int v1_0), (0, .int v0_0), (1, .int v1_0), (2, .ref (a_p2 0))]) E rfl hl dJ6_getChars_ba4f3_1 (by decide) rfl (fun ls hl => ?_)
  refine k_iload_n E hl 1 dJ6_getChars_ba4f3_3 rfl ?_
  have J_12 : ∀ (p2_j12 : Nat → Int32) (w0_j12 : Int32) (w5_j12 : Int32) (s0_j12 : Int32) (H : Heap) (locs : List Loc) (ls : Array Slot) (hW : WD k A s.heap (wBArr k a_p2 z_p2 p2_j12) H locs) (hl : lv_has ls 7 [(0, .int w0_j12), (2, .ref (a_p2 0)), (5, .int w5_j12)]) (hf : j_J6_getChars_ba4f3_12 n z_p2 p2_j12 w0_j12 w5_j12 s0_j12 = some res), W p l e { frames := 0, cells := 0, slots := 0, locals := 0 } s m args below meth c H locs 0 0 Q (F0 m 12 ls [.int s0_j12]) := by
    intro p2_j12 w0_j12 w5_j12 s0_j12 H locs ls hW hl hf
    unfold j_J6_getChars_ba4f3_12 at hf
    refine k_istore (lv' := [(6, .int s0_j12), (0, .int w0_j12), (2, .ref (a_p2 0)), (5, .int w5_j12)]) E rfl hl dJ6_getChars_ba4f3_12 (by decide) rfl (fun ls hl => ?_)
    refine k_iload E hl 0 dJ6_getChars_ba4f3_14 rfl ?_
    have L_22 : ∀ (N_22 : Nat) (p2_j22 : Nat → Int32) (w0_j22 : Int32) (w5_j22 : Int32) (w6_j22 : Int32) (H : Heap) (locs : List Loc) (ls : Array Slot) (hW : WD k A s.heap (wBArr k a_p2 z_p2 p2_j22) H locs) (hl : lv_has ls 7 [(0, .int w0_j22), (2, .ref (a_p2 0)), (5, .int w5_j22), (6, .int w6_j22)]) (hf : l_J6_getChars_ba4f3_22 n z_p2 N_22 p2_j22 w0_j22 w5_j22 w6_j22 = some res), W p l e { frames := 0, cells := 0, slots := 0, locals := 0 } s m args below meth c H locs 0 0 Q (F0 m 22 ls []) := by
      intro N_22
      induction N_22 with
      | zero => intro p2_j22 w0_j22 w5_j22 w6_j22 H locs ls hW hl hf; exact o0 hf
      | succ N_22 ih_22 =>
        intro p2_j22 w0_j22 w5_j22 w6_j22 H locs ls hW hl hf
        have hf : s_J6_getChars_ba4f3_22 n z_p2 (l_J6_getChars_ba4f3_22 n z_p2 N_22) p2_j22 w0_j22 w5_j22 w6_j22 = some res := hf
        unfold s_J6_getChars_ba4f3_22 at hf
        refine k_iload_n E hl 0 dJ6_getChars_ba4f3_22 rfl ?_
        refine lv_bipush (v := (-100 : Int32)) E.hx E.hb dJ6_getChars_ba4f3_23 bp_m100 ?_
        have J_72 : ∀ (p2_j72 : Nat → Int32) (w0_j72 : Int32) (w5_j72 : Int32) (w6_j72 : Int32) (H : Heap) (locs : List Loc) (ls : Array Slot) (hW : WD k A s.heap (wBArr k a_p2 z_p2 p2_j72) H locs) (hl : lv_has ls 7 [(0, .int w0_j72), (2, .ref (a_p2 0)), (5, .int w5_j72), (6, .int w6_j72)]) (hf : j_J6_getChars_ba4f3_72 n z_p2 p2_j72 w0_j72 w5_j72 w6_j72 = some res), W p l e { frames := 0, cells := 0, slots := 0, locals := 0 } s m args below meth c H locs 0 0 Q (F0 m 72 ls []) := by
          intro p2_j72 w0_j72 w5_j72 w6_j72 H locs ls hW hl hf
          unfold j_J6_getChars_ba4f3_72 at hf
          refine k_aload_n E hl 1 dJ6_getChars_ba4f3_72 rfl ?_
          obtain ⟨v5_1, ev5_1, hf⟩ := oL hf
          refine k_iinc (lv' := [(5, .int v5_1), (0, .int w0_j72), (2, .ref (a_p2 0)), (6, .int w6_j72)]) E hl 2 dJ6_getChars_ba4f3_73 rfl (ev5_1.trans (congrArg (fun z => w5_j72 + z) ic_m1.symm)) (by decide) rfl (fun ls hl => ?_)
          refine k_iload E hl 0 dJ6_getChars_ba4f3_76 rfl ?_
          obtain ⟨aw_78, hz_78, hw_78⟩ := (hG _ _ _ E.sf).1
          refine va_gets E.hx E.hb hz_78 hW.2.2 E.ho (E.w tm_1029 rfl) (fun _ h => h) dJ6_getChars_ba4f3_78 ?_
          refine k_iload_n E hl 1 dJ6_getChars_ba4f3_81 rfl ?_
          refine lv_ineg E.hx E.hb dJ6_getChars_ba4f3_82 ?_
          obtain ⟨hin, hf⟩ := oI hf
          obtain ⟨x_2, ex_2, hf⟩ := oL hf
          refine va_tb E.hx E.hb hw_78 hW.2.2 hin rfl dJ6_getChars_ba4f3_83 ?_
          refine k_topi ex_2 ?_
          obtain ⟨hin, hf⟩ := oI hf
          obtain ⟨p2_3, ep2_3, hf⟩ := oL hf
          refine k_bast (ws2 := wBArr k a_p2 z_p2 p2_3) E hW 0 rfl hin dJ6_getChars_ba4f3_84 (by rw [ep2_3]; rfl) (fun H locs hW => ?_)
          refine k_iload_n E hl 1 dJ6_getChars_ba4f3_85 rfl ?_
          refine lv_bipush (v := (-9 : Int32)) E.hx E.hb dJ6_getChars_ba4f3_86 bp_m9 ?_
          have J_104 : ∀ (p2_j104 : Nat → Int32) (w5_j104 : Int32) (w6_j104 : Int32) (H : Heap) (locs : List Loc) (ls : Array Slot) (hW : WD k A s.heap (wBArr k a_p2 z_p2 p2_j104) H locs) (hl : lv_has ls 7 [(2, .ref (a_p2 0)), (5, .int w5_j104), (6, .int w6_j104)]) (hf : j_J6_getChars_ba4f3_104 n z_p2 p2_j104 w5_j104 w6_j104 = some res), W p l e { frames := 0, cells := 0, slots := 0, locals := 0 } s m args below meth c H locs 0 0 Q (F0 m 104 ls []) := by
            intro p2_j104 w5_j104 w6_j104 H locs ls hW hl hf
            unfold j_J6_getChars_ba4f3_104 at hf
            refine k_iload E hl 2 dJ6_getChars_ba4f3_104 rfl ?_
            refine lv_if_eq (tgt := 118) E.hx E.hb dJ6_getChars_ba4f3_106 (by decide) (fun hc => ?_) (fun hc => ?_)
            · have hf := oT hc hf
              refine k_iload E hl 1 dJ6_getChars_ba4f3_118 rfl ?_
              exact hret _ p2_j104 _ _ _ _ _ _ hW (Option.some.inj hf).symm rfl (by decide) (by decide) dJ6_getChars_ba4f3_120
            · have hf := oF hc hf
              refine k_aload_n E hl 0 dJ6_getChars_ba4f3_109 rfl ?_
              obtain ⟨v5_4, ev5_4, hf⟩ := oL hf
              refine k_iinc (lv' := [(5, .int v5_4), (2, .ref (a_p2 0)), (6, .int w6_j104)]) E hl 1 dJ6_getChars_ba4f3_110 rfl (ev5_4.trans (congrArg (fun z => w5_j104 + z) ic_m1.symm)) (by decide) rfl (fun ls hl => ?_)
              refine k_iload E hl 0 dJ6_getChars_ba4f3_113 rfl ?_
              refine lv_bipush (v := (45 : Int32)) E.hx E.hb dJ6_getChars_ba4f3_115 bp_45 ?_
              obtain ⟨hin, hf⟩ := oI hf
              obtain ⟨p2_5, ep2_5, hf⟩ := oL hf
              refine k_bast (ws2 := wBArr k a_p2 z_p2 p2_5) E hW 0 rfl hin dJ6_getChars_ba4f3_117 (by rw [ep2_5]; rfl) (fun H locs hW => ?_)
              refine k_iload E hl 0 dJ6_getChars_ba4f3_118 rfl ?_
              exact hret _ p2_5 _ _ _ _ _ _ hW (Option.some.inj hf).symm rfl (by decide) (by decide) dJ6_getChars_ba4f3_120
          refine lv_icmp_ge (tgt := 104) E.hx E.hb dJ6_getChars_ba4f3_88 (by decide) (fun hc => ?_) (fun hc => ?_)
          · have hf := oT hc hf
            exact J_104 p2_3 v5_1 w6_j72 _ _ _ hW (lv_sub hl [2, 0, 3] rfl) hf
          · have hf := oF hc hf
            refine k_aload_n E hl 2 dJ6_getChars_ba4f3_91 rfl ?_
            obtain ⟨v5_6, ev5_6, hf⟩ := oL hf
            refine k_iinc (lv' := [(5, .int v5_6), (0, .int w0_j72), (2, .ref (a_p2 0)), (6, .int w6_j72)]) E hl 0 dJ6_getChars_ba4f3_92 rfl (ev5_6.trans (congrArg (fun z => v5_1 + z) ic_m1.symm)) (by decide) rfl (fun ls hl => ?_)
            refine k_iload E hl 0 dJ6_getChars_ba4f3_95 rfl ?_
            obtain ⟨aw_97, hz_97, hw_97⟩ := (hG _ _ _ E.sf).2
            refine va_gets E.hx E.hb hz_97 hW.2.2 E.ho (E.w tm_1031 rfl) (fun _ h => h) dJ6_getChars_ba4f3_97 ?_
            refine k_iload_n E hl 1 dJ6_getChars_ba4f3_100 rfl ?_
            refine lv_ineg E.hx E.hb dJ6_getChars_ba4f3_101 ?_
            obtain ⟨hin, hf⟩ := oI hf
            obtain ⟨x_7, ex_7, hf⟩ := oL hf
            refine va_tb E.hx E.hb hw_97 hW.2.2 hin rfl dJ6_getChars_ba4f3_102 ?_
            refine k_topi ex_7 ?_
            obtain ⟨hin, hf⟩ := oI hf
            obtain ⟨p2_8, ep2_8, hf⟩ := oL hf
            refine k_bast (ws2 := wBArr k a_p2 z_p2 p2_8) E hW 0 rfl hin dJ6_getChars_ba4f3_103 (by rw [ep2_8]; rfl) (fun H locs hW => ?_)
            exact J_104 p2_8 v5_6 w6_j72 _ _ _ hW (lv_sub hl [2, 0, 3] rfl) hf
        refine lv_icmp_gt (tgt := 72) E.hx E.hb dJ6_getChars_ba4f3_25 (by decide) (fun hc => ?_) (fun hc => ?_)
        · have hf := oT hc hf
          exact J_72 p2_j22 w0_j22 w5_j22 w6_j22 _ _ _ hW (lv_sub hl [0, 1, 2, 3] rfl) hf
        · have hf := oF hc hf
          refine k_iload_n E hl 0 dJ6_getChars_ba4f3_28 rfl ?_
          refine lv_bipush (v := (100 : Int32)) E.hx E.hb dJ6_getChars_ba4f3_29 bp_100 ?_
          refine lv_idiv E.hx E.hb dJ6_getChars_ba4f3_31 (by decide) ?_
          obtain ⟨v3_9, ev3_9, hf⟩ := oL hf
          refine k_istore_n (lv' := [(3, .int v3_9), (0, .int w0_j22), (2, .ref (a_p2 0)), (5, .int w5_j22), (6, .int w6_j22)]) E ev3_9 hl dJ6_getChars_ba4f3_32 rfl (by decide) rfl (fun ls hl => ?_)
          refine k_iload_n E hl 0 dJ6_getChars_ba4f3_33 rfl ?_
          refine lv_bipush (v := (100 : Int32)) E.hx E.hb dJ6_getChars_ba4f3_34 bp_100 ?_
          refine lv_imul E.hx E.hb dJ6_getChars_ba4f3_36 ?_
          refine k_iload_n E hl 1 dJ6_getChars_ba4f3_37 rfl ?_
          refine lv_isub E.hx E.hb dJ6_getChars_ba4f3_38 ?_
          obtain ⟨v4_10, ev4_10, hf⟩ := oL hf
          refine k_istore (lv' := [(4, .int v4_10), (3, .int v3_9), (0, .int w0_j22), (2, .ref (a_p2 0)), (5, .int w5_j22), (6, .int w6_j22)]) E ev4_10 hl dJ6_getChars_ba4f3_39 (by decide) rfl (fun ls hl => ?_)
          refine k_iload_n E hl 1 dJ6_getChars_ba4f3_41 rfl ?_
          refine k_istore_n (lv' := [(0, .int v3_9), (4, .int v4_10), (3, .int v3_9), (2, .ref (a_p2 0)), (5, .int w5_j22), (6, .int w6_j22)]) E rfl hl dJ6_getChars_ba4f3_42 rfl (by decide) rfl (fun ls hl => ?_)
          refine k_aload_n E hl 3 dJ6_getChars_ba4f3_43 rfl ?_
          obtain ⟨v5_11, ev5_11, hf⟩ := oL hf
          refine k_iinc (lv' := [(5, .int v5_11), (0, .int v3_9), (4, .int v4_10), (3, .int v3_9), (2, .ref (a_p2 0)), (6, .int w6_j22)]) E hl 4 dJ6_getChars_ba4f3_44 rfl (ev5_11.trans (congrArg (fun z => w5_j22 + z) ic_m1.symm)) (by decide) rfl (fun ls hl => ?_)
          refine k_iload E hl 0 dJ6_getChars_ba4f3_47 rfl ?_
          obtain ⟨aw_49, hz_49, hw_49⟩ := (hG _ _ _ E.sf).1
          refine va_gets E.hx E.hb hz_49 hW.2.2 E.ho (E.w tm_1029 rfl) (fun _ h => h) dJ6_getChars_ba4f3_49 ?_
          refine k_iload E hl 2 dJ6_getChars_ba4f3_52 rfl ?_
          obtain ⟨hin, hf⟩ := oI hf
          obtain ⟨x_12, ex_12, hf⟩ := oL hf
          refine va_tb E.hx E.hb hw_49 hW.2.2 hin rfl dJ6_getChars_ba4f3_54 ?_
          refine k_topi ex_12 ?_
          obtain ⟨hin, hf⟩ := oI hf
          obtain ⟨p2_13, ep2_13, hf⟩ := oL hf
          refine k_bast (ws2 := wBArr k a_p2 z_p2 p2_13) E hW 0 rfl hin dJ6_getChars_ba4f3_55 (by rw [ep2_13]; rfl) (fun H locs hW => ?_)
          refine k_aload_n E hl 4 dJ6_getChars_ba4f3_56 rfl ?_
          obtain ⟨v5_14, ev5_14, hf⟩ := oL hf
          refine k_iinc (lv' := [(5, .int v5_14), (0, .int v3_9), (4, .int v4_10), (3, .int v3_9), (2, .ref (a_p2 0)), (6, .int w6_j22)]) E hl 0 dJ6_getChars_ba4f3_57 rfl (ev5_14.trans (congrArg (fun z => v5_11 + z) ic_m1.symm)) (by decide) rfl (fun ls hl => ?_)
          refine k_iload E hl 0 dJ6_getChars_ba4f3_60 rfl ?_
          obtain ⟨aw_62, hz_62, hw_62⟩ := (hG _ _ _ E.sf).2
          refine va_gets E.hx E.hb hz_62 hW.2.2 E.ho (E.w tm_1031 rfl) (fun _ h => h) dJ6_getChars_ba4f3_62 ?_
          refine k_iload E hl 2 dJ6_getChars_ba4f3_65 rfl ?_
          obtain ⟨hin, hf⟩ := oI hf
          obtain ⟨x_15, ex_15, hf⟩ := oL hf
          refine va_tb E.hx E.hb hw_62 hW.2.2 hin rfl dJ6_getChars_ba4f3_67 ?_
          refine k_topi ex_15 ?_
          obtain ⟨hin, hf⟩ := oI hf
          obtain ⟨p2_16, ep2_16, hf⟩ := oL hf
          refine k_bast (ws2 := wBArr k a_p2 z_p2 p2_16) E hW 0 rfl hin dJ6_getChars_ba4f3_68 (by rw [ep2_16]; rfl) (fun H locs hW => ?_)
          refine lv_goto (tgt := 22) E.hx E.hb dJ6_getChars_ba4f3_69 (by decide) ?_
          exact ih_22 p2_16 v3_9 v5_14 w6_j22 _ _ _ hW (lv_sub hl [1, 4, 0, 5] rfl) hf
    refine lv_if_ne (tgt := 22) E.hx E.hb dJ6_getChars_ba4f3_16 (by decide) (fun hc => ?_) (fun hc => ?_)
    · have hf := oF hc hf
      exact L_22 n p2_j12 w0_j12 w5_j12 s0_j12 _ _ _ hW (lv_sub hl [1, 2, 3, 0] rfl) hf
    · have hf := oT hc hf
      refine k_iload_n E hl 1 dJ6_getChars_ba4f3_19 rfl ?_
      refine lv_ineg E.hx E.hb dJ6_getChars_ba4f3_20 ?_
      obtain ⟨v0_17, ev0_17, hf⟩ := oL hf
      refine k_istore_n (lv' := [(0, .int v0_17), (6, .int s0_j12), (2, .ref (a_p2 0)), (5, .int w5_j12)]) E ev0_17 hl dJ6_getChars_ba4f3_21 rfl (by decide) rfl (fun ls hl => ?_)
      exact L_22 n p2_j12 v0_17 w5_j12 s0_j12 _ _ _ hW (lv_sub hl [0, 2, 3, 1] rfl) hf
  refine lv_if_ge (tgt := 11) E.hx E.hb dJ6_getChars_ba4f3_4 (by decide) (fun hc => ?_) (fun hc => ?_)
  · have hf := oT hc hf
    refine lv_iconst (v := (0 : Int32)) E.hx E.hb dJ6_getChars_ba4f3_11 ic_0 ?_
    exact J_12 p2_0 v0_0 v1_0 (0 : Int32) _ _ _ hW (lv_sub hl [1, 3, 0] rfl) hf
  · have hf := oF hc hf
    refine lv_iconst (v := (1 : Int32)) E.hx E.hb dJ6_getChars_ba4f3_7 ic_1 ?_
    refine lv_goto (tgt := 12) E.hx E.hb dJ6_getChars_ba4f3_8 (by decide) ?_
    exact J_12 p2_0 v0_0 v1_0 (1 : Int32) _ _ _ hW (lv_sub hl [1, 3, 0] rfl) hf
/-! numbers as letters -/
def sx_num (v : Nat) : List Nat := (List.range (sb_dg v)).map (sb_dec v)
theorem sx_gI {β : Type} {z : Nat} {i : Int32} {o : Option β} (h : vp_in i z) : gI z i o = o := if_neg h
theorem gc_dec : ∀ v : Fin 101, (decide ((-100 : Int32) < -nI v.val) = decide (v.val < 100)) ∧ (decide ((-9 : Int32) ≤ -nI v.val) = decide (v.val < 10)) ∧ -(-nI v.val) = nI v.val ∧ f_J6_stringSize_0f7a4 10 (nI v.val) = some (nI (sb_dg v.val)) ∧ (v.val < 10 → sb_dg v.val = 1) ∧ (10 ≤ v.val → v.val < 100 → sb_dg v.val = 2) ∧ ∀ i : Fin 3, i.val < sb_dg v.val → sb_dec v.val i.val = (if v.val = 100 then (if i.val = 0 then 49 else 48) else if v.val < 10 then 48 + v.val else if i.val = 0 then 48 + v.val / 10 else 48 + v.val % 10) := by decide +kernel
theorem gc_one (v : Nat) : vp_nar .byte (dgOne v) = sb_b (48 + v % 10) := vp_nar_byte _
theorem gc_ten (v : Nat) : vp_nar .byte (dgTen v) = sb_b (48 + v / 10) := vp_nar_byte _
theorem gc_72 {cap e vv : Nat} (f : Nat → Int32) (h0 : vv < 100) (he : e ≤ cap) (hc : cap ≤ 602) (hd : sb_dg vv ≤ e) : j_J6_getChars_ba4f3_72 10 cap f (-nI vv) (nI e) 0 = some (if vv < 10 then upd f (e - 1) (sb_b (48 + vv % 10)) else upd (upd f (e - 1) (sb_b (48 + vv % 10))) (e - 2) (sb_b (48 + vv / 10)), nI (e - sb_dg vv)) := by
  obtain ⟨-, g2, g3, -, g5, g6, -⟩ := gc_dec ⟨vv, by omega⟩
  dsimp only at g2 g3 g5 g6
  have hd1 := (sb_dg_in vv).1
  have e1 : nI e + (-1 : Int32) = nI (e - 1) := sb_m1 (by omega)
  have jj : ∀ (g : Nat → Int32) (x : Int32), j_J6_getChars_ba4f3_104 10 cap g x 0 = some (g, x) := fun g x => if_pos rfl
  unfold j_J6_getChars_ba4f3_72
  rw [eLet, g3, sx_gI (vp_in_nI h0 (by decide)), nI_clamp (show vv < 2 ^ 31 by omega), eLet, e1, sx_gI (vp_in_nI (show e - 1 < cap by omega) (by omega)), nI_clamp (show e - 1 < 2 ^ 31 by omega), gc_one, eLet]
  by_cases h1 : vv < 10
  · rw [if_pos (of_decide_eq_true (g2.trans (decide_eq_true h1))), jj, if_pos h1, g5 h1]
  · rw [if_neg (of_decide_eq_false (g2.trans (decide_eq_false h1))), if_neg h1]
    have hd2 := g6 (by omega) h0
    have e2 : nI (e - 1) + (-1 : Int32) = nI (e - 2) := sb_m1 (p := e - 1) (by omega)
    rw [eLet, sx_gI (vp_in_nI h0 (by decide)), eLet, e2, sx_gI (vp_in_nI (show e - 2 < cap by omega) (by omega)), nI_clamp (show e - 2 < 2 ^ 31 by omega), gc_ten, eLet, jj, hd2]
theorem gc_all {cap cnt vv : Nat} (f : Nat → Int32) (h0 : vv ≤ 100) (he : cnt + sb_dg vv ≤ cap) (hc : cap ≤ 602) (hf : sb_Fit f) : ∃ g, f_J6_getChars_ba4f3 10 cap f (nI vv) (nI (cnt + sb_dg vv)) = some (g, nI cnt) ∧ sb_Fit g ∧ (∀ j, j < cnt → g j = f j) ∧ ∀ i, i < sb_dg vv → g (cnt + i) = sb_b (sb_dec vv i) := by
  obtain ⟨g1, -, g3, -, g5, g6, g7⟩ := gc_dec ⟨vv, by omega⟩
  dsimp only at g1 g3 g5 g6 g7
  have hd1 := (sb_dg_in vv).1
  have hst : f_J6_getChars_ba4f3 10 cap f (nI vv) (nI (cnt + sb_dg vv)) = l_J6_getChars_ba4f3_22 10 cap 10 f (-nI vv) (nI (cnt + sb_dg vv)) 0 := by
    unfold f_J6_getChars_ba4f3
    rw [if_pos (nI_pos' (by omega))]
    rfl
  rw [hst]
  show ∃ g, s_J6_getChars_ba4f3_22 10 cap (l_J6_getChars_ba4f3_22 10 cap 9) f (-nI vv) (nI (cnt + sb_dg vv)) 0 = some (g, nI cnt) ∧ _
  unfold s_J6_getChars_ba4f3_22
  by_cases h1 : vv < 100
  · rw [if_pos (of_decide_eq_true (g1.trans (decide_eq_true h1))), gc_72 f h1 he hc (by omega), Nat.add_sub_cancel]
    refine ⟨_, rfl, ?_⟩
    by_cases h2 : vv < 10
    · rw [if_pos h2, g5 h2, Nat.add_sub_cancel]
      refine ⟨sb_fitU hf (sb_fitB _), fun j hj => pk_un (by omega), fun i hi => ?_⟩
      obtain rfl : i = 0 := by omega
      have h9 := g7 ⟨0, by decide⟩ (by dsimp only; omega)
      dsimp only at h9
      rw [Nat.add_zero, pk_us, h9, if_neg (by omega), if_pos h2, Nat.mod_eq_of_lt h2]
    · have hd2 := g6 (by omega) h1
      rw [if_neg h2, hd2]
      rw [hd2] at g7
      refine ⟨sb_fitU (sb_fitU hf (sb_fitB _)) (sb_fitB _), fun j hj => by rw [pk_un (by omega), pk_un (by omega)], fun i hi => ?_⟩
      have h9 := g7 ⟨i, by omega⟩ (by dsimp only; omega)
      dsimp only at h9
      rw [h9, if_neg (by omega), if_neg h2]
      by_cases hi0 : i = 0
      · subst hi0
        rw [if_pos rfl]
        show upd (upd f (cnt + 2 - 1) _) (cnt + 2 - 2) _ cnt = _
        rw [show cnt + 2 - 2 = cnt by omega, pk_us]
      · obtain rfl : i = 1 := by omega
        rw [if_neg (by omega), show cnt + 2 - 2 = cnt by omega, pk_un (by omega), show cnt + 2 - 1 = cnt + 1 by omega, pk_us]
  · obtain rfl : vv = 100 := by omega
    have hdg : sb_dg 100 = 3 := by decide
    rw [hdg] at he g7 ⊢
    rw [if_neg (of_decide_eq_false (g1.trans (decide_eq_false h1)))]
    have e1 : nI (cnt + 3) + (-1 : Int32) = nI (cnt + 2) := sb_m1 (p := cnt + 3) (by omega)
    have e2 : nI (cnt + 2) + (-1 : Int32) = nI (cnt + 1) := sb_m1 (p := cnt + 2) (by omega)
    have c1 : (-nI 100) / (100 : Int32) = -nI 1 := by decide
    have c2 : (-nI 1) * (100 : Int32) - (-nI 100) = nI 0 := by decide
    rw [eLet, c1, eLet, c2, eLet, sx_gI (vp_in_nI (show 0 < 100 by decide) (by decide)), nI_clamp (show (0 : Nat) < 2 ^ 31 by decide), eLet, e1, sx_gI (vp_in_nI (show cnt + 2 < cap by omega) (by omega)), nI_clamp (show cnt + 2 < 2 ^ 31 by omega), gc_one, eLet, eLet, sx_gI (vp_in_nI (show 0 < 100 by decide) (by decide)), eLet, e2, sx_gI (vp_in_nI (show cnt + 1 < cap by omega) (by omega)), nI_clamp (show cnt + 1 < 2 ^ 31 by omega), gc_ten, eLet]
    have hs : ∀ u : Nat → Int32, l_J6_getChars_ba4f3_22 10 cap 9 u (-nI 1) (nI (cnt + 1)) 0 = some (upd u cnt (sb_b 49), nI cnt) := fun u => by
      show s_J6_getChars_ba4f3_22 10 cap (l_J6_getChars_ba4f3_22 10 cap 8) u (-nI 1) (nI (cnt + 1)) 0 = _
      unfold s_J6_getChars_ba4f3_22
      rw [if_pos (by decide), gc_72 u (by decide) (by omega) hc (by show 1 ≤ _; omega)]
      rfl
    rw [hs]
    refine ⟨_, rfl, sb_fitU (sb_fitU (sb_fitU hf (sb_fitB _)) (sb_fitB _)) (sb_fitB _), fun j hj => by rw [pk_un (by omega), pk_un (by omega), pk_un (by omega)], fun i hi => ?_⟩
    have h9 := g7 ⟨i, by omega⟩ (by dsimp only; omega)
    dsimp only at h9
    rw [h9, if_pos rfl]
    by_cases hi0 : i = 0
    · subst hi0
      rw [if_pos rfl]
      show upd _ cnt _ cnt = _
      rw [pk_us]
    · rw [if_neg hi0, pk_un (by omega)]
      by_cases hi1 : i = 1
      · subst hi1
        rw [pk_us]
      · obtain rfl : i = 2 := by omega
        rw [pk_un (by omega), pk_us]
theorem sbo_num {t : Nat → Nat} {cnt cap cap1 vv : Nat} {f f1 g : Nat → Int32} (hS : SBo t cnt cap f) (g1 : cnt + sb_dg vv ≤ cap1) (g3 : cap1 ≤ 602) (g5 : ∀ j, j < cap → f1 j = f j) (h1 : sb_Fit g) (h2 : ∀ j, j < cnt → g j = f1 j) (h3 : ∀ i, i < sb_dg vv → g (cnt + i) = sb_b (sb_dec vv i)) : SBo (sb_cat t cnt (sb_dec vv)) (cnt + sb_dg vv) cap1 g := by
  refine ⟨g1, g3, sb_latPut hS.2.2.1 (fun j hj => ?_) (fun i hi => ⟨?_, h3 i hi⟩), h1⟩
  · rw [h2 j hj]
    exact g5 j (Nat.lt_of_lt_of_le hj hS.1)
  · unfold sb_dec
    omega
/-! a builder that holds the letters l -/
def tx (l : List Nat) (j : Nat) : Nat := l.getD j 0
def SW (k : KT) (a : Nat) (l : List Nat) (ws : va_W) : Prop := ∃ v cap ml f, ws = wSB k a v cap ml l.length f ∧ SBo (tx l) l.length cap f
theorem tx_app {l l2 : List Nat} {s : Nat → Nat} {w : Nat} (hw : l2.length = w) (h : ∀ i, i < w → l2.getD i 0 = s i) {j : Nat} (hj : j < l.length + w) : tx (l ++ l2) j = sb_cat (tx l) l.length s j := by
  unfold tx
  rcases Nat.lt_or_ge j l.length with q | q
  · rw [sb_cat_lo q, List.getD_eq_getElem?_getD, List.getElem?_append_left q, ← List.getD_eq_getElem?_getD]
  · obtain ⟨i, rfl⟩ : ∃ i, j = l.length + i := ⟨j - l.length, by omega⟩
    rw [sb_cat_hi, List.getD_eq_getElem?_getD, List.getElem?_append_right q, Nat.add_sub_cancel_left, ← List.getD_eq_getElem?_getD]
    exact h i (by omega)
theorem SBo.list {l l2 : List Nat} {s : Nat → Nat} {w cap : Nat} {f : Nat → Int32} (h : SBo (sb_cat (tx l) l.length s) (l.length + w) cap f) (hw : l2.length = w) (hs : ∀ i, i < w → l2.getD i 0 = s i) : SBo (tx (l ++ l2)) (l ++ l2).length cap f := by
  rw [List.length_append, hw]
  refine ⟨h.1, h.2.1, fun j hj => ?_, h.2.2.2⟩
  rw [tx_app hw hs hj]
  exact h.2.2.1 j hj
theorem SW.mk {k : KT} {a v cap n : Nat} {ml : Int32} {f : Nat → Int32} {l : List Nat} (hn : n = l.length) (h : SBo (tx l) l.length cap f) : SW k a l (wSB k a v cap ml n f) := ⟨v, cap, ml, f, by rw [hn], h⟩
theorem sx_numlen (v : Nat) : (sx_num v).length = sb_dg v := by
  unfold sx_num
  rw [List.length_map, List.length_range]
theorem sx_numget {v i : Nat} (h : i < sb_dg v) : (sx_num v).getD i 0 = sb_dec v i := by
  unfold sx_num
  rw [List.getD_eq_getElem?_getD, List.getElem?_map, List.getElem?_range h]
  rfl
/-- the letters of a constant text -/
def sLst (x : Int32) : List Nat := (sBytL.getD x.toNatClampNeg []).map Int32.toNatClampNeg
theorem sLst_len (x : Int32) : (sLst x).length = (sBytL.getD x.toNatClampNeg []).length := List.length_map ..
theorem sLst_get (x : Int32) (i : Nat) : (sLst x).getD i 0 = sTx x i := by
  unfold sLst sTx
  rw [List.getD_eq_getElem?_getD, List.getElem?_map, List.getD_eq_getElem?_getD (l := sBytL.getD x.toNatClampNeg [])]
  cases (sBytL.getD x.toNatClampNeg [])[i]? with
  | none => decide
  | some _ => rfl
theorem sLenL_ok : ∀ i, i < 25 → sLenL.getD i 0 = (sBytL.getD i []).length := by decide +kernel
theorem dJ5_append_c97b9_0 : decode cJ5_append_c97b9 0 = .ok (.aload_n 0, 1) := by decide +kernel
theorem dJ5_append_c97b9_1 : decode cJ5_append_c97b9 1 = .ok (.getfield 79, 3) := by decide +kernel
theorem dJ5_append_c97b9_4 : decode cJ5_append_c97b9 4 = .ok (.istore_n 2, 1) := by decide +kernel
theorem dJ5_append_c97b9_5 : decode cJ5_append_c97b9 5 = .ok (.iload_n 2, 1) := by decide +kernel
theorem dJ5_append_c97b9_6 : decode cJ5_append_c97b9 6 = .ok (.iload_n 1, 1) := by decide +kernel
theorem dJ5_append_c97b9_7 : decode cJ5_append_c97b9 7 = .ok (.invokestatic 245, 3) := by decide +kernel
theorem dJ5_append_c97b9_10 : decode cJ5_append_c97b9 10 = .ok (.iadd, 1) := by decide +kernel
theorem dJ5_append_c97b9_11 : decode cJ5_append_c97b9 11 = .ok (.istore_n 3, 1) := by decide +kernel
theorem dJ5_append_c97b9_12 : decode cJ5_append_c97b9 12 = .ok (.aload_n 0, 1) := by decide +kernel
theorem dJ5_append_c97b9_13 : decode cJ5_append_c97b9 13 = .ok (.iload_n 3, 1) := by decide +kernel
theorem dJ5_append_c97b9_14 : decode cJ5_append_c97b9 14 = .ok (.invokevirtual 100, 3) := by decide +kernel
theorem dJ5_append_c97b9_17 : decode cJ5_append_c97b9 17 = .ok (.aload_n 0, 1) := by decide +kernel
theorem dJ5_append_c97b9_18 : decode cJ5_append_c97b9 18 = .ok (.invokevirtual 83, 3) := by decide +kernel
theorem dJ5_append_c97b9_21 : decode cJ5_append_c97b9 21 = .ok (.ifCond .eq 16, 3) := by decide +kernel
theorem dJ5_append_c97b9_24 : decode cJ5_append_c97b9 24 = .ok (.iload_n 1, 1) := by decide +kernel
theorem dJ5_append_c97b9_25 : decode cJ5_append_c97b9 25 = .ok (.iload_n 3, 1) := by decide +kernel
theorem dJ5_append_c97b9_26 : decode cJ5_append_c97b9 26 = .ok (.aload_n 0, 1) := by decide +kernel
theorem dJ5_append_c97b9_27 : decode cJ5_append_c97b9 27 = .ok (.getfield 15, 3) := by decide +kernel
theorem dJ5_append_c97b9_30 : decode cJ5_append_c97b9 30 = .ok (.invokestatic 248, 3) := by decide +kernel
theorem dJ5_append_c97b9_33 : decode cJ5_append_c97b9 33 = .ok (.pop, 1) := by decide +kernel
theorem dJ5_append_c97b9_34 : decode cJ5_append_c97b9 34 = .ok (.goto 14, 3) := by decide +kernel
theorem dJ5_append_c97b9_37 : decode cJ5_append_c97b9 37 = .ok (.iload_n 1, 1) := by decide +kernel
theorem dJ5_append_c97b9_38 : decode cJ5_append_c97b9 38 = .ok (.iload_n 2, 1) := by decide +kernel
theorem dJ5_append_c97b9_39 : decode cJ5_append_c97b9 39 = .ok (.iload_n 3, 1) := by decide +kernel
theorem dJ5_append_c97b9_40 : decode cJ5_append_c97b9 40 = .ok (.aload_n 0, 1) := by decide +kernel
theorem dJ5_append_c97b9_41 : decode cJ5_append_c97b9 41 = .ok (.getfield 15, 3) := by decide +kernel
theorem dJ5_append_c97b9_44 : decode cJ5_append_c97b9 44 = .ok (.invokestatic 251, 3) := by decide +kernel
theorem dJ5_append_c97b9_47 : decode cJ5_append_c97b9 47 = .ok (.pop, 1) := by decide +kernel
theorem dJ5_append_c97b9_48 : decode cJ5_append_c97b9 48 = .ok (.aload_n 0, 1) := by decide +kernel
theorem dJ5_append_c97b9_49 : decode cJ5_append_c97b9 49 = .ok (.iload_n 3, 1) := by decide +kernel
theorem dJ5_append_c97b9_50 : decode cJ5_append_c97b9 50 = .ok (.putfield 79, 3) := by decide +kernel
theorem dJ5_append_c97b9_53 : decode cJ5_append_c97b9 53 = .ok (.aload_n 0, 1) := by decide +kernel
theorem dJ5_append_c97b9_54 : decode cJ5_append_c97b9 54 = .ok (.areturn, 1) := by decide +kernel
set_option maxHeartbeats 4000000 in
set_option maxRecDepth 100000 in
theorem c_apI5 (l : Launch) (k : KT) (hE : EH k) (hG : DGH k) (t : Nat → Nat) (a v cap cnt : Nat) (ml : Int32) (f : Nat → Int32) (hS : SBo t cnt cap f) (vv : Nat) (hvv : vv ≤ 100) (hq : cnt + sb_dg vv ≤ 300) : CG l k yJ5_append_c97b9 cJ5_append_c97b9 4 (some (.object "java/lang/AbstractStringBuilder")) 4 1 700 93 [.ref a, .int (nI vv)] (wSB k a v cap ml cnt f) (Qw k (fun u : Nat × Nat × (Nat → Int32) => wSB k a u.1 u.2.1 ml (cnt + sb_dg vv) u.2.2) (fun (r : Nat) (u : Nat × Nat × (Nat → Int32)) => r = a ∧ SBo (sb_cat t cnt (sb_dec vv)) (cnt + sb_dg vv) u.2.1 u.2.2)) := by
  refine CG.ofW (by decide) (Nat.le_of_ble_eq_true rfl) (fun p e s m args below meth c A Q E hnm hW hA hret ls hl => ?_)
  have hl : lv_has ls 4 [(0, .ref a), (1, .int (nI vv))] := hl
  refine k_aload_n E hl 0 dJ5_append_c97b9_0 rfl ?_
  refine gf_J5_79 E hW 0 rfl rfl dJ5_append_c97b9_1 ?_
  refine k_istore_n (lv' := [(2, .int (nI cnt)), (0, .ref a), (1, .int (nI vv))]) E rfl hl dJ5_append_c97b9_4 rfl (by decide) rfl (fun ls hl => ?_)
  refine k_iload_n E hl 0 dJ5_append_c97b9_5 rfl ?_
  refine k_iload_n E hl 2 dJ5_append_c97b9_6 rfl ?_
  have hsz : f_J6_stringSize_0f7a4 10 (nI vv) = some (nI (sb_dg vv)) := (gc_dec ⟨vv, by omega⟩).2.2.2.1
  refine k_fini (X := wSB k a v cap ml cnt f) (k_rS (X := wSB k a v cap ml cnt f) (As := [.int (nI vv)]) (rest := [.int (nI cnt)]) (c_J6_stringSize_0f7a4 10 l k (nI vv) _ hsz) E sl_J5_245 dJ5_append_c97b9_7 hW hA hl rfl ⟨by decide, by decide⟩ ⟨by decide, by decide⟩ (Nat.le_of_ble_eq_true rfl)) E hW hA (fun r u H locs hp hW => ?_)
  subst hp
  have hW : WD k A s.heap (wSB k a v cap ml cnt f) H locs := by rw [List.append_nil] at hW; exact hW
  refine lv_iadd E.hx E.hb dJ5_append_c97b9_10 ?_
  refine k_topi (y := (nI (cnt + sb_dg vv))) ((nI_add cnt (sb_dg vv)).symm) ?_
  refine k_istore_n (lv' := [(3, .int (nI (cnt + sb_dg vv))), (2, .int (nI cnt)), (0, .ref a), (1, .int (nI vv))]) E rfl hl dJ5_append_c97b9_11 rfl (by decide) rfl (fun ls hl => ?_)
  refine k_aload_n E hl 2 dJ5_append_c97b9_12 rfl ?_
  refine k_iload_n E hl 0 dJ5_append_c97b9_13 rfl ?_
  refine k_finv (X := []) (k_rV (X := []) (As := [.int (nI (cnt + sb_dg vv))]) (rest := []) (c_ens l k hE a v cap cnt (cnt + sb_dg vv) ml f hS.2.2.2 (by omega) hS.2.1) E (jp_J5_100.cw hE E ⟨by decide, by decide⟩) dJ5_append_c97b9_14 (va_recv E.hK hW.1 (q := (RJ4, TJ4, 4)) (ci := 1) rfl (q0 := 0) rfl) hW hA hl rfl ⟨by decide, by decide⟩ (Nat.le_of_ble_eq_true rfl)) E hW hA (fun u H locs hp hW => ?_)
  obtain ⟨v1, cap1, f1⟩ := u
  obtain ⟨g1, g2, g3, g4, g5⟩ := hp
  dsimp only at g1 g2 g3 g4 g5
  have hW : WD k A s.heap (wSB k a v1 cap1 ml cnt f1) H locs := hW
  refine k_aload_n E hl 2 dJ5_append_c97b9_17 rfl ?_
  refine k_fini (X := []) (k_rV (X := []) (As := []) (rest := []) (c_isL l k hE a v1 cap1 cnt ml f1) E (ji_J5_83.cw E ⟨by decide, by decide⟩) dJ5_append_c97b9_18 (va_recv E.hK hW.1 (q := (RJ4, TJ4, 4)) (ci := 1) rfl (q0 := 0) rfl) hW hA hl rfl ⟨by decide, by decide⟩ (Nat.le_of_ble_eq_true rfl)) E hW hA (fun r u H locs hp hW => ?_)
  subst hp
  have hW : WD k A s.heap (wSB k a v1 cap1 ml cnt f1) H locs := hW
  refine lv_if_eq (tgt := 37) E.hx E.hb dJ5_append_c97b9_21 (by decide) (fun hc => absurd hc (by decide)) (fun hc => ?_)
  refine k_iload_n E hl 3 dJ5_append_c97b9_24 rfl ?_
  refine k_iload_n E hl 0 dJ5_append_c97b9_25 rfl ?_
  refine k_aload_n E hl 2 dJ5_append_c97b9_26 rfl ?_
  refine gf_J5_15 E hW 0 rfl rfl dJ5_append_c97b9_27 ?_
  obtain ⟨f2, hgc, k1, k2, k3⟩ := gc_all (cnt := cnt) f1 hvv g1 g3 g4
  have hW : WD k A s.heap ([(a, .inr (1, [.ref v1, .int 0, .int ml, .int (nI cnt)]))] ++ wBArr k (fun _ => v1) cap1 f1) H locs := hW
  refine k_fini (X := [(a, .inr (1, [.ref v1, .int 0, .int ml, .int (nI cnt)]))]) (k_rS (X := [(a, .inr (1, [.ref v1, .int 0, .int ml, .int (nI cnt)]))]) (As := [.int (nI vv), .int (nI (cnt + sb_dg vv)), .ref v1]) (rest := []) (c_J6_getChars_ba4f3 10 l k hG (fun _ => v1) cap1 f1 (nI vv) (nI (cnt + sb_dg vv)) _ hgc) E sl_J5_248 dJ5_append_c97b9_30 hW hA hl rfl ⟨by decide, by decide⟩ ⟨by decide, by decide⟩ (Nat.le_of_ble_eq_true rfl)) E hW hA (fun r u H locs hp hW => ?_)
  cases hp
  have hW : WD k A s.heap (wSB k a v1 cap1 ml cnt f2) H locs := hW
  refine lv_pop E.hx E.hb dJ5_append_c97b9_33 rfl ?_
  refine lv_goto (tgt := 48) E.hx E.hb dJ5_append_c97b9_34 (by decide) ?_
  refine k_aload_n E hl 2 dJ5_append_c97b9_48 rfl ?_
  refine k_iload_n E hl 0 dJ5_append_c97b9_49 rfl ?_
  refine pf_J5_79 (ws2 := wSB k a v1 cap1 ml (cnt + sb_dg vv) f2) E hW 0 rfl rfl rfl (Nat.le_of_ble_eq_true rfl) dJ5_append_c97b9_50 rfl (fun H locs hW => ?_)
  refine k_aload_n E hl 2 dJ5_append_c97b9_53 rfl ?_
  exact hret a (v1, cap1, f2) _ _ _ _ _ _ hW ⟨rfl, sbo_num hS g1 g3 g5 k1 k2 k3⟩ (by decide) (by decide) dJ5_append_c97b9_54

theorem dJ4_append_cf468_0 : decode cJ4_append_cf468 0 = .ok (.aload_n 0, 1) := by decide +kernel
theorem dJ4_append_cf468_1 : decode cJ4_append_cf468 1 = .ok (.iload_n 1, 1) := by decide +kernel
theorem dJ4_append_cf468_2 : decode cJ4_append_cf468 2 = .ok (.invokespecial 50, 3) := by decide +kernel
theorem dJ4_append_cf468_5 : decode cJ4_append_cf468 5 = .ok (.pop, 1) := by decide +kernel
theorem dJ4_append_cf468_6 : decode cJ4_append_cf468 6 = .ok (.aload_n 0, 1) := by decide +kernel
theorem dJ4_append_cf468_7 : decode cJ4_append_cf468 7 = .ok (.areturn, 1) := by decide +kernel
set_option maxHeartbeats 4000000 in
set_option maxRecDepth 100000 in
theorem c_apC (l : Launch) (k : KT) (hE : EH k) (a : Nat) (l9 : List Nat) (ws : va_W) (hw : SW k a l9 ws) (ch : Nat) (hch : ch < 256) (hq : l9.length + 1 ≤ 300) : CG l k yJ4_append_cf468 cJ4_append_cf468 2 (some (.object "java/lang/StringBuilder")) 5 1 700 116 [.ref a, .int (nI ch)] (ws) (Qw k (fun u : va_W => u) (fun (r : Nat) (u : va_W) => a = r ∧ SW k a (l9 ++ [ch]) u)) := by
  obtain ⟨v, cap, ml, f, rfl, hS⟩ := hw
  refine CG.ofW (by decide) (Nat.le_of_ble_eq_true rfl) (fun p e s m args below meth c A Q E hnm hW hA hret ls hl => ?_)
  have hl : lv_has ls 2 [(0, .ref a), (1, .int (nI ch))] := hl
  refine k_aload_n E hl 0 dJ4_append_cf468_0 rfl ?_
  refine k_iload_n E hl 1 dJ4_append_cf468_1 rfl ?_
  refine k_finw (X := []) (k_rSU (X := []) (As := [.int (nI ch)]) (rest := []) (E.hK.1 1 (RJ4, TJ4, 4) rfl).2 (c_apC5 l k hE (tx l9) a v cap l9.length ml f hS ch hch hq) E (js_J4_50.cw E ⟨by decide, by decide⟩) dJ4_append_cf468_2 (va_recv E.hK hW.1 (q := (RJ4, TJ4, 4)) (ci := 1) rfl (q0 := 0) rfl) hW hA hl rfl ⟨by decide, by decide⟩ (Nat.le_of_ble_eq_true rfl)) E hW hA (fun r u H locs hp hW => ?_)
  obtain ⟨-, hp⟩ := hp
  refine lv_pop E.hx E.hb dJ4_append_cf468_5 rfl ?_
  refine k_aload_n E hl 0 dJ4_append_cf468_6 rfl ?_
  exact hret a _ _ _ _ _ _ _ hW ⟨rfl, SW.mk (by rw [List.length_append]; rfl) (hp.list (l2 := [ch]) rfl (fun i hi => by
    have h9 : i < 1 := hi
    obtain rfl : i = 0 := by omega
    rfl))⟩ (by decide) (by decide) dJ4_append_cf468_7

theorem dJ4_append_bf812_0 : decode cJ4_append_bf812 0 = .ok (.aload_n 0, 1) := by decide +kernel
theorem dJ4_append_bf812_1 : decode cJ4_append_bf812 1 = .ok (.iload_n 1, 1) := by decide +kernel
theorem dJ4_append_bf812_2 : decode cJ4_append_bf812 2 = .ok (.invokespecial 53, 3) := by decide +kernel
theorem dJ4_append_bf812_5 : decode cJ4_append_bf812 5 = .ok (.pop, 1) := by decide +kernel
theorem dJ4_append_bf812_6 : decode cJ4_append_bf812 6 = .ok (.aload_n 0, 1) := by decide +kernel
theorem dJ4_append_bf812_7 : decode cJ4_append_bf812 7 = .ok (.areturn, 1) := by decide +kernel
set_option maxHeartbeats 4000000 in
set_option maxRecDepth 100000 in
theorem c_apI (l : Launch) (k : KT) (hE : EH k) (hG : DGH k) (a : Nat) (l9 : List Nat) (ws : va_W) (hw : SW k a l9 ws) (vv : Nat) (hvv : vv ≤ 100) (hq : l9.length + sb_dg vv ≤ 300) : CG l k yJ4_append_bf812 cJ4_append_bf812 2 (some (.object "java/lang/StringBuilder")) 5 1 700 116 [.ref a, .int (nI vv)] (ws) (Qw k (fun u : va_W => u) (fun (r : Nat) (u : va_W) => a = r ∧ SW k a (l9 ++ sx_num vv) u)) := by
  obtain ⟨v, cap, ml, f, rfl, hS⟩ := hw
  refine CG.ofW (by decide) (Nat.le_of_ble_eq_true rfl) (fun p e s m args below meth c A Q E hnm hW hA hret ls hl => ?_)
  have hl : lv_has ls 2 [(0, .ref a), (1, .int (nI vv))] := hl
  refine k_aload_n E hl 0 dJ4_append_bf812_0 rfl ?_
  refine k_iload_n E hl 1 dJ4_append_bf812_1 rfl ?_
  refine k_finw (X := []) (k_rSU (X := []) (As := [.int (nI vv)]) (rest := []) (E.hK.1 1 (RJ4, TJ4, 4) rfl).2 (c_apI5 l k hE hG (tx l9) a v cap l9.length ml f hS vv hvv hq) E (js_J4_53.cw E ⟨by decide, by decide⟩) dJ4_append_bf812_2 (va_recv E.hK hW.1 (q := (RJ4, TJ4, 4)) (ci := 1) rfl (q0 := 0) rfl) hW hA hl rfl ⟨by decide, by decide⟩ (Nat.le_of_ble_eq_true rfl)) E hW hA (fun r u H locs hp hW => ?_)
  obtain ⟨-, hp⟩ := hp
  refine lv_pop E.hx E.hb dJ4_append_bf812_5 rfl ?_
  refine k_aload_n E hl 0 dJ4_append_bf812_6 rfl ?_
  exact hret a _ _ _ _ _ _ _ hW ⟨rfl, SW.mk (by rw [List.length_append, sx_numlen]) (hp.list (sx_numlen vv) (fun i hi => sx_numget hi))⟩ (by decide) (by decide) dJ4_append_bf812_7

theorem dJ4_append_15ec4_0 : decode cJ4_append_15ec4 0 = .ok (.aload_n 0, 1) := by decide +kernel
theorem dJ4_append_15ec4_1 : decode cJ4_append_15ec4 1 = .ok (.aload_n 1, 1) := by decide +kernel
theorem dJ4_append_15ec4_2 : decode cJ4_append_15ec4 2 = .ok (.invokespecial 29, 3) := by decide +kernel
theorem dJ4_append_15ec4_5 : decode cJ4_append_15ec4 5 = .ok (.pop, 1) := by decide +kernel
theorem dJ4_append_15ec4_6 : decode cJ4_append_15ec4 6 = .ok (.aload_n 0, 1) := by decide +kernel
theorem dJ4_append_15ec4_7 : decode cJ4_append_15ec4 7 = .ok (.areturn, 1) := by decide +kernel
set_option maxHeartbeats 4000000 in
set_option maxRecDepth 100000 in
theorem c_apS (l : Launch) (k : KT) (hE : EH k) (a : Nat) (l9 : List Nat) (ws : va_W) (hw : SW k a l9 ws) (x : Int32) (hin : sIn x) (hq : l9.length + (sLst x).length ≤ 300) : CG l k yJ4_append_15ec4 cJ4_append_15ec4 2 (some (.object "java/lang/StringBuilder")) 5 1 700 116 [.ref a, .ref (strAd k x)] (ws) (Qw k (fun u : va_W => u) (fun (r : Nat) (u : va_W) => a = r ∧ SW k a (l9 ++ sLst x) u)) := by
  obtain ⟨v, cap, ml, f, rfl, hS⟩ := hw
  refine CG.ofW (by decide) (Nat.le_of_ble_eq_true rfl) (fun p e s m args below meth c A Q E hnm hW hA hret ls hl => ?_)
  have hl : lv_has ls 2 [(0, .ref a), (1, .ref (strAd k x))] := hl
  refine k_aload_n E hl 0 dJ4_append_15ec4_0 rfl ?_
  refine k_aload_n E hl 1 dJ4_append_15ec4_1 rfl ?_
  refine k_finw (X := []) (k_rSU (X := []) (As := [.ref (strAd k x)]) (rest := []) (E.hK.1 1 (RJ4, TJ4, 4) rfl).2 (c_apS5 l k hE (tx l9) a v cap l9.length ml f hS x hin (by rw [← ((sLst_len x).trans (sLenL_ok _ hin.1).symm)]; exact hq)) E (js_J4_29.cw E ⟨by decide, by decide⟩) dJ4_append_15ec4_2 (va_recv E.hK hW.1 (q := (RJ4, TJ4, 4)) (ci := 1) rfl (q0 := 0) rfl) hW hA hl rfl ⟨by decide, by decide⟩ (Nat.le_of_ble_eq_true rfl)) E hW hA (fun r u H locs hp hW => ?_)
  obtain ⟨-, hp⟩ := hp
  refine lv_pop E.hx E.hb dJ4_append_15ec4_5 rfl ?_
  refine k_aload_n E hl 0 dJ4_append_15ec4_6 rfl ?_
  exact hret a _ _ _ _ _ _ _ hW ⟨rfl, SW.mk (by rw [List.length_append, ((sLst_len x).trans (sLenL_ok _ hin.1).symm)]) (hp.list ((sLst_len x).trans (sLenL_ok _ hin.1).symm) (fun i _ => sLst_get x i))⟩ (by decide) (by decide) dJ4_append_15ec4_7
