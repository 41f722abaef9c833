theorem tm_884 : (Jvm.Cond.classLink "MemoryCourtLaw" (41 : Nat) "java/lang/StringBuilder") ∈ lw_tbl := List.mem_of_getElem? (i := 884) (by decide +kernel)
theorem tm_885 : (Jvm.Cond.instantiable "java/lang/StringBuilder" (4 : Nat)) ∈ lw_tbl := List.mem_of_getElem? (i := 885) (by decide +kernel)
theorem tm_887 : (Jvm.Cond.methodLink "MemoryCourtLaw" (45 : Nat) ({ cls := "java/lang/StringBuilder", name := "<init>", desc := "(Ljava/lang/String;)V" } : Jvm.MethodName)) ∈ lw_tbl := List.mem_of_getElem? (i := 887) (by decide +kernel)
theorem tm_888 : (Jvm.Cond.instanceMethod ({ cls := "java/lang/StringBuilder", name := "<init>", desc := "(Ljava/lang/String;)V" } : Jvm.MethodName)) ∈ lw_tbl := List.mem_of_getElem? (i := 888) (by decide +kernel)
theorem tm_889 : (Jvm.Cond.code ({ cls := "java/lang/StringBuilder", name := "<init>", desc := "(Ljava/lang/String;)V" } : Jvm.MethodName) prog_28_method_3_code (2 : Nat) (Option.none : Option Jvm.ClassFile.FieldType)) ∈ lw_tbl := List.mem_of_getElem? (i := 889) (by decide +kernel)
theorem tm_1016 : (Jvm.Cond.methodLink "MemoryCourtLaw" (48 : Nat) ({ cls := "java/lang/StringBuilder", name := "append", desc := "(I)Ljava/lang/StringBuilder;" } : Jvm.MethodName)) ∈ lw_tbl := List.mem_of_getElem? (i := 1016) (by decide +kernel)
theorem tm_1017 : (Jvm.Cond.instanceMethod ({ cls := "java/lang/StringBuilder", name := "append", desc := "(I)Ljava/lang/StringBuilder;" } : Jvm.MethodName)) ∈ lw_tbl := List.mem_of_getElem? (i := 1017) (by decide +kernel)
theorem tm_1018 : (Jvm.Cond.selects "java/lang/StringBuilder" ({ cls := "java/lang/StringBuilder", name := "append", desc := "(I)Ljava/lang/StringBuilder;" } : Jvm.MethodName) ({ cls := "java/lang/StringBuilder", name := "append", desc := "(I)Ljava/lang/StringBuilder;" } : Jvm.MethodName)) ∈ lw_tbl := List.mem_of_getElem? (i := 1018) (by decide +kernel)
theorem tm_1019 : (Jvm.Cond.code ({ cls := "java/lang/StringBuilder", name := "append", desc := "(I)Ljava/lang/StringBuilder;" } : Jvm.MethodName) prog_28_method_15_code (2 : Nat) (Option.some (Jvm.ClassFile.FieldType.object "java/lang/StringBuilder"))) ∈ lw_tbl := List.mem_of_getElem? (i := 1019) (by decide +kernel)
theorem tm_1041 : (Jvm.Cond.methodLink "MemoryCourtLaw" (52 : Nat) ({ cls := "java/lang/StringBuilder", name := "append", desc := "(C)Ljava/lang/StringBuilder;" } : Jvm.MethodName)) ∈ lw_tbl := List.mem_of_getElem? (i := 1041) (by decide +kernel)
theorem tm_1042 : (Jvm.Cond.instanceMethod ({ cls := "java/lang/StringBuilder", name := "append", desc := "(C)Ljava/lang/StringBuilder;" } : Jvm.MethodName)) ∈ lw_tbl := List.mem_of_getElem? (i := 1042) (by decide +kernel)
theorem tm_1043 : (Jvm.Cond.selects "java/lang/StringBuilder" ({ cls := "java/lang/StringBuilder", name := "append", desc := "(C)Ljava/lang/StringBuilder;" } : Jvm.MethodName) ({ cls := "java/lang/StringBuilder", name := "append", desc := "(C)Ljava/lang/StringBuilder;" } : Jvm.MethodName)) ∈ lw_tbl := List.mem_of_getElem? (i := 1043) (by decide +kernel)
theorem tm_1044 : (Jvm.Cond.code ({ cls := "java/lang/StringBuilder", name := "append", desc := "(C)Ljava/lang/StringBuilder;" } : Jvm.MethodName) prog_28_method_14_code (2 : Nat) (Option.some (Jvm.ClassFile.FieldType.object "java/lang/StringBuilder"))) ∈ lw_tbl := List.mem_of_getElem? (i := 1044) (by decide +kernel)
theorem tm_1064 : (Jvm.Cond.methodLink "MemoryCourtLaw" (80 : Nat) ({ cls := "java/lang/StringBuilder", name := "toString", desc := "()Ljava/lang/String;" } : Jvm.MethodName)) ∈ lw_tbl := List.mem_of_getElem? (i := 1064) (by decide +kernel)
theorem tm_1065 : (Jvm.Cond.instanceMethod ({ cls := "java/lang/StringBuilder", name := "toString", desc := "()Ljava/lang/String;" } : Jvm.MethodName)) ∈ lw_tbl := List.mem_of_getElem? (i := 1065) (by decide +kernel)
theorem tm_1066 : (Jvm.Cond.selects "java/lang/StringBuilder" ({ cls := "java/lang/StringBuilder", name := "toString", desc := "()Ljava/lang/String;" } : Jvm.MethodName) ({ cls := "java/lang/StringBuilder", name := "toString", desc := "()Ljava/lang/String;" } : Jvm.MethodName)) ∈ lw_tbl := List.mem_of_getElem? (i := 1066) (by decide +kernel)
theorem tm_1067 : (Jvm.Cond.code ({ cls := "java/lang/StringBuilder", name := "toString", desc := "()Ljava/lang/String;" } : Jvm.MethodName) prog_28_method_42_code (1 : Nat) (Option.some (Jvm.ClassFile.FieldType.object "java/lang/String"))) ∈ lw_tbl := List.mem_of_getElem? (i := 1067) (by decide +kernel)
theorem tm_1055 : (Jvm.Cond.methodLink "MemoryCourtLaw" (57 : Nat) ({ cls := "java/lang/StringBuilder", name := "append", desc := "(Ljava/lang/String;)Ljava/lang/StringBuilder;" } : Jvm.MethodName)) ∈ lw_tbl := List.mem_of_getElem? (i := 1055) (by decide +kernel)
theorem tm_694 : (Jvm.Cond.methodLink "MemoryCourtLaw" (15 : Nat) ({ cls := "java/lang/String", name := "length", desc := "()I" } : Jvm.MethodName)) ∈ lw_tbl := List.mem_of_getElem? (i := 694) (by decide +kernel)
theorem tm_704 : (Jvm.Cond.methodLink "MemoryCourtLaw" (21 : Nat) ({ cls := "java/lang/String", name := "charAt", desc := "(I)C" } : Jvm.MethodName)) ∈ lw_tbl := List.mem_of_getElem? (i := 704) (by decide +kernel)
theorem tm_742 : (Jvm.Cond.methodLink "MemoryCourtLaw" (25 : Nat) ({ cls := "MemoryCourt", name := "feed", desc := "(IIIII)I" } : Jvm.MethodName)) ∈ lw_tbl := List.mem_of_getElem? (i := 742) (by decide +kernel)
theorem tm_743 : (Jvm.Cond.instanceMethod ({ cls := "MemoryCourt", name := "feed", desc := "(IIIII)I" } : Jvm.MethodName)) ∈ lw_tbl := List.mem_of_getElem? (i := 743) (by decide +kernel)
theorem tm_744 : (Jvm.Cond.selects "MemoryCourt" ({ cls := "MemoryCourt", name := "feed", desc := "(IIIII)I" } : Jvm.MethodName) ({ cls := "MemoryCourt", name := "feed", desc := "(IIIII)I" } : Jvm.MethodName)) ∈ lw_tbl := List.mem_of_getElem? (i := 744) (by decide +kernel)
theorem tm_745 : (Jvm.Cond.code ({ cls := "MemoryCourt", name := "feed", desc := "(IIIII)I" } : Jvm.MethodName) prog_1_method_2_code (6 : Nat) (Option.some Jvm.ClassFile.FieldType.int)) ∈ lw_tbl := List.mem_of_getElem? (i := 745) (by decide +kernel)
theorem tm_754 : (Jvm.Cond.methodLink "MemoryCourtLaw" (31 : Nat) ({ cls := "MemoryCourt", name := "truncate", desc := "(I)Z" } : Jvm.MethodName)) ∈ lw_tbl := List.mem_of_getElem? (i := 754) (by decide +kernel)
theorem tm_755 : (Jvm.Cond.instanceMethod ({ cls := "MemoryCourt", name := "truncate", desc := "(I)Z" } : Jvm.MethodName)) ∈ lw_tbl := List.mem_of_getElem? (i := 755) (by decide +kernel)
theorem tm_756 : (Jvm.Cond.selects "MemoryCourt" ({ cls := "MemoryCourt", name := "truncate", desc := "(I)Z" } : Jvm.MethodName) ({ cls := "MemoryCourt", name := "truncate", desc := "(I)Z" } : Jvm.MethodName)) ∈ lw_tbl := List.mem_of_getElem? (i := 756) (by decide +kernel)
theorem tm_757 : (Jvm.Cond.code ({ cls := "MemoryCourt", name := "truncate", desc := "(I)Z" } : Jvm.MethodName) prog_1_method_3_code (2 : Nat) (Option.some Jvm.ClassFile.FieldType.boolean)) ∈ lw_tbl := List.mem_of_getElem? (i := 757) (by decide +kernel)
theorem tm_758 : (Jvm.Cond.methodLink "MemoryCourtLaw" (38 : Nat) ({ cls := "MemoryCourt", name := "parse", desc := "()I" } : Jvm.MethodName)) ∈ lw_tbl := List.mem_of_getElem? (i := 758) (by decide +kernel)
theorem tm_759 : (Jvm.Cond.instanceMethod ({ cls := "MemoryCourt", name := "parse", desc := "()I" } : Jvm.MethodName)) ∈ lw_tbl := List.mem_of_getElem? (i := 759) (by decide +kernel)
theorem tm_760 : (Jvm.Cond.selects "MemoryCourt" ({ cls := "MemoryCourt", name := "parse", desc := "()I" } : Jvm.MethodName) ({ cls := "MemoryCourt", name := "parse", desc := "()I" } : Jvm.MethodName)) ∈ lw_tbl := List.mem_of_getElem? (i := 760) (by decide +kernel)
theorem tm_761 : (Jvm.Cond.code ({ cls := "MemoryCourt", name := "parse", desc := "()I" } : Jvm.MethodName) prog_1_method_4_code (2 : Nat) (Option.some Jvm.ClassFile.FieldType.int)) ∈ lw_tbl := List.mem_of_getElem? (i := 761) (by decide +kernel)
theorem tm_691 : (Jvm.Cond.methodLink "MemoryCourtLaw" (35 : Nat) ({ cls := "MemoryCourtLaw", name := "feed", desc := "(LMemoryCourt;Ljava/lang/String;)V" } : Jvm.MethodName)) ∈ lw_tbl := List.mem_of_getElem? (i := 691) (by decide +kernel)
theorem tm_692 : (Jvm.Cond.static ({ cls := "MemoryCourtLaw", name := "feed", desc := "(LMemoryCourt;Ljava/lang/String;)V" } : Jvm.MethodName)) ∈ lw_tbl := List.mem_of_getElem? (i := 692) (by decide +kernel)
theorem tm_693 : (Jvm.Cond.code ({ cls := "MemoryCourtLaw", name := "feed", desc := "(LMemoryCourt;Ljava/lang/String;)V" } : Jvm.MethodName) method_4_code (5 : Nat) (Option.none : Option Jvm.ClassFile.FieldType)) ∈ lw_tbl := List.mem_of_getElem? (i := 693) (by decide +kernel)
theorem bp_112 : (Int8.ofInt (112)).toInt32 = (112 : Int32) := by decide
theorem nw_L_41 {p : Program} {l : Launch} {e : Env} {R : Room} {s : State} {m : MethodId} {args : Array Value} {below : List Frame} {meth : Method} {c : Code} {H : Heap} {locs : List Loc} {cells slots : Nat} {Q : State → Prop} {cc : ByteArray} {pc nL : Nat} {ls : Array Slot} {rest : List Value} {k : KT} {A : Nat → Prop} {ws : va_W} (E : E0 p s m c cc nL RL k A) (hW : WD k A s.heap ws H locs) (hA : ∀ q : Nat, s.heap.size ≤ q → A q) (hc : cells + 1 ≤ R.cells) (hs : slots + 4 ≤ R.slots) (hdg : decode cc pc = .ok (.new 41, 3)) (q : ∀ (x : Nat) (H1 : Heap), WD k A s.heap (ws ++ [(x, .inr (1, [.null, .int 0, .int 0, .int 0]))]) H1 locs → W p l e R s m args below meth c H1 locs (cells + 1) (slots + 4) Q (F0 m (pc + 3) ls (.ref x :: rest))) : W p l e R s m args below meth c H locs cells slots Q (F0 m pc ls rest) :=
  va_new (ci := 1) (fs := [.null, .int 0, .int 0, .int 0]) (C := RJ4) (T := TJ4) (N := 4) (Ts := wsJ40) E.hx E.hb (fun w hw => E.w (inJ4 w hw) (tbl_laysJ4 w hw)) (fun _ h => h) tyJ4 tyJ4_ok E.ho (E.w tm_884 rfl) (E.w tm_885 rfl) (E.w tm_45 rfl) E.hK hW.1 hW.2.1 hW.2.2 hA rfl (fun j hj => match j, hj with | 0, _ => rfl | 1, _ => rfl | 2, _ => rfl | 3, _ => rfl | j + 4, h => absurd h (by omega)) hc hs hdg (fun x H1 h1 h2 h3 => q x H1 ⟨h1, h2, h3⟩)
theorem il_L_45 : IL RL 45 yJ4_init_a7421 cJ4_init_a7421 2 1 := ⟨⟨tm_887, tm_888, tm_45, tm_889⟩, by decide +kernel⟩
theorem vl_L_48 : VL RL 48 RJ4 yJ4_append_bf812 cJ4_append_bf812 2 (some (.object "java/lang/StringBuilder")) 1 := ⟨⟨tm_1016, tm_1017, tm_1018, tm_45, tm_1019⟩, by decide +kernel⟩
theorem vl_L_52 : VL RL 52 RJ4 yJ4_append_cf468 cJ4_append_cf468 2 (some (.object "java/lang/StringBuilder")) 1 := ⟨⟨tm_1041, tm_1042, tm_1043, tm_45, tm_1044⟩, by decide +kernel⟩
theorem vl_L_80 : VL RL 80 RJ4 yJ4_toString_0e30d cJ4_toString_0e30d 1 (some (.object "java/lang/String")) 0 := ⟨⟨tm_1064, tm_1065, tm_1066, tm_45, tm_1067⟩, by decide +kernel⟩
theorem vl_L_57 : VL RL 57 RJ4 yJ4_append_15ec4 cJ4_append_15ec4 2 (some (.object "java/lang/StringBuilder")) 1 := ⟨⟨tm_1055, tm_912, tm_913, tm_45, tm_914⟩, by decide +kernel⟩
theorem vl_L_15 : VL RL 15 RJ0 yJ0_length_8abf5 cJ0_length_8abf5 1 (some .int) 0 := ⟨⟨tm_694, tm_695, tm_696, tm_46, tm_697⟩, by decide +kernel⟩
theorem vl_L_21 : VL RL 21 RJ0 yJ0_charAt_5068e cJ0_charAt_5068e 2 (some .char) 1 := ⟨⟨tm_704, tm_705, tm_706, tm_46, tm_707⟩, by decide +kernel⟩
theorem vl_L_25 : VL RL 25 RX8 yX8_feed cX8_feed 6 (some .int) 5 := ⟨⟨tm_742, tm_743, tm_744, tm_33, tm_745⟩, by decide +kernel⟩
theorem vl_L_31 : VL RL 31 RX8 yX8_truncate cX8_truncate 2 (some .boolean) 1 := ⟨⟨tm_754, tm_755, tm_756, tm_33, tm_757⟩, by decide +kernel⟩
theorem vl_L_38 : VL RL 38 RX8 yX8_parse cX8_parse 2 (some .int) 0 := ⟨⟨tm_758, tm_759, tm_760, tm_33, tm_761⟩, by decide +kernel⟩
theorem sl_L_35 : SL RL 35 yL_feed cL_feed 5 none 2 := ⟨⟨tm_691, tm_692, tm_32, tm_693⟩, by decide +kernel⟩
/-! the text that the law makes -/
def procL : Nat → List Nat
  | 0 => []
  | p + 1 => ((procL p ++ sLst 16) ++ [112 + p]) ++ [59]
def headL (P : Nat) : List Nat := (sLst 15 ++ sx_num P) ++ [59]
def bodyL (P q e0 e1 e2 e3 e4 : Nat) : List Nat := ((((((((((headL P ++ procL q) ++ sLst 17) ++ sx_num e0) ++ sLst 18) ++ sx_num e1) ++ sLst 19) ++ sx_num e2) ++ sLst 20) ++ sx_num e3) ++ sLst 21) ++ sx_num e4 ++ [59]
def ordX (o : Int32) : Int32 := if o = 0 then 22 else if o = 1 then 23 else 24
def setupL (P q e0 e1 e2 e3 e4 : Nat) (o : Int32) : List Nat := bodyL P q e0 e1 e2 e3 e4 ++ sLst (ordX o)
theorem sl_len : (sLst 15).length = 6 ∧ (sLst 16).length = 8 ∧ (sLst 17).length = 6 ∧ (sLst 18).length = 6 ∧ (sLst 19).length = 6 ∧ (sLst 20).length = 10 ∧ (sLst 21).length = 8 ∧ (sLst 22).length = 12 ∧ (sLst 23).length = 12 ∧ (sLst 24).length = 12 := by decide +kernel
theorem procL_len : ∀ p, (procL p).length = 10 * p
  | 0 => rfl
  | p + 1 => by
    show (((procL p ++ sLst 16) ++ [112 + p]) ++ [59]).length = _
    rw [List.length_append, List.length_append, List.length_append, procL_len p, sl_len.2.1]
    show 10 * p + 8 + 1 + 1 = _
    omega
theorem ordX_in (o : Int32) : sIn (ordX o) ∧ (sLst (ordX o)).length = 12 := by
  unfold ordX sIn
  split
  · exact ⟨by decide, sl_len.2.2.2.2.2.2.2.1⟩
  · split
    · exact ⟨by decide, sl_len.2.2.2.2.2.2.2.2.1⟩
    · exact ⟨by decide, sl_len.2.2.2.2.2.2.2.2.2⟩
theorem bodyL_len {P q e0 e1 e2 e3 e4 : Nat} (hq : q ≤ 8) : (bodyL P q e0 e1 e2 e3 e4).length ≤ 220 := by
  have h0 := sb_dg_in P
  have h1 := sb_dg_in e0
  have h2 := sb_dg_in e1
  have h3 := sb_dg_in e2
  have h4 := sb_dg_in e3
  have h5 := sb_dg_in e4
  obtain ⟨s0, s1, s2, s3, s4, s5, s6, -⟩ := sl_len
  simp only [bodyL, headL, List.length_append, sx_numlen, procL_len, s0, s2, s3, s4, s5, s6, List.length_cons, List.length_nil]
  omega
theorem dL_setup_0 : decode cL_setup 0 = .ok (.new 41, 3) := by decide +kernel
theorem dL_setup_3 : decode cL_setup 3 = .ok (.dup, 1) := by decide +kernel
theorem dL_setup_4 : decode cL_setup 4 = .ok (.ldc 43, 2) := by decide +kernel
theorem dL_setup_6 : decode cL_setup 6 = .ok (.invokespecial 45, 3) := by decide +kernel
theorem dL_setup_9 : decode cL_setup 9 = .ok (.iload_n 1, 1) := by decide +kernel
theorem dL_setup_10 : decode cL_setup 10 = .ok (.invokevirtual 48, 3) := by decide +kernel
theorem dL_setup_13 : decode cL_setup 13 = .ok (.bipush 59, 2) := by decide +kernel
theorem dL_setup_15 : decode cL_setup 15 = .ok (.invokevirtual 52, 3) := by decide +kernel
theorem dL_setup_18 : decode cL_setup 18 = .ok (.astore_n 3, 1) := by decide +kernel
theorem dL_setup_19 : decode cL_setup 19 = .ok (.iconst 0, 1) := by decide +kernel
theorem dL_setup_20 : decode cL_setup 20 = .ok (.istore 4, 2) := by decide +kernel
theorem dL_setup_22 : decode cL_setup 22 = .ok (.iload 4, 2) := by decide +kernel
theorem dL_setup_24 : decode cL_setup 24 = .ok (.iload_n 2, 1) := by decide +kernel
theorem dL_setup_25 : decode cL_setup 25 = .ok (.if_icmp .ge 30, 3) := by decide +kernel
theorem dL_setup_28 : decode cL_setup 28 = .ok (.aload_n 3, 1) := by decide +kernel
theorem dL_setup_29 : decode cL_setup 29 = .ok (.ldc 55, 2) := by decide +kernel
theorem dL_setup_31 : decode cL_setup 31 = .ok (.invokevirtual 57, 3) := by decide +kernel
theorem dL_setup_34 : decode cL_setup 34 = .ok (.bipush 112, 2) := by decide +kernel
theorem dL_setup_36 : decode cL_setup 36 = .ok (.iload 4, 2) := by decide +kernel
theorem dL_setup_38 : decode cL_setup 38 = .ok (.iadd, 1) := by decide +kernel
theorem dL_setup_39 : decode cL_setup 39 = .ok (.i2c, 1) := by decide +kernel
theorem dL_setup_40 : decode cL_setup 40 = .ok (.invokevirtual 52, 3) := by decide +kernel
theorem dL_setup_43 : decode cL_setup 43 = .ok (.bipush 59, 2) := by decide +kernel
theorem dL_setup_45 : decode cL_setup 45 = .ok (.invokevirtual 52, 3) := by decide +kernel
theorem dL_setup_48 : decode cL_setup 48 = .ok (.pop, 1) := by decide +kernel
theorem dL_setup_49 : decode cL_setup 49 = .ok (.iinc 4 1, 3) := by decide +kernel
theorem dL_setup_52 : decode cL_setup 52 = .ok (.goto (-30), 3) := by decide +kernel
theorem dL_setup_55 : decode cL_setup 55 = .ok (.aload_n 3, 1) := by decide +kernel
theorem dL_setup_56 : decode cL_setup 56 = .ok (.ldc 60, 2) := by decide +kernel
theorem dL_setup_58 : decode cL_setup 58 = .ok (.invokevirtual 57, 3) := by decide +kernel
theorem dL_setup_61 : decode cL_setup 61 = .ok (.aload_n 0, 1) := by decide +kernel
theorem dL_setup_62 : decode cL_setup 62 = .ok (.iconst 0, 1) := by decide +kernel
theorem dL_setup_63 : decode cL_setup 63 = .ok (.iconst 1, 1) := by decide +kernel
theorem dL_setup_64 : decode cL_setup 64 = .ok (.bipush 9, 2) := by decide +kernel
theorem dL_setup_66 : decode cL_setup 66 = .ok (.invokestatic 62, 3) := by decide +kernel
theorem dL_setup_69 : decode cL_setup 69 = .ok (.invokevirtual 48, 3) := by decide +kernel
theorem dL_setup_72 : decode cL_setup 72 = .ok (.ldc 66, 2) := by decide +kernel
theorem dL_setup_74 : decode cL_setup 74 = .ok (.invokevirtual 57, 3) := by decide +kernel
theorem dL_setup_77 : decode cL_setup 77 = .ok (.aload_n 0, 1) := by decide +kernel
theorem dL_setup_78 : decode cL_setup 78 = .ok (.iconst 1, 1) := by decide +kernel
theorem dL_setup_79 : decode cL_setup 79 = .ok (.iconst 1, 1) := by decide +kernel
theorem dL_setup_80 : decode cL_setup 80 = .ok (.bipush 100, 2) := by decide +kernel
theorem dL_setup_82 : decode cL_setup 82 = .ok (.invokestatic 62, 3) := by decide +kernel
theorem dL_setup_85 : decode cL_setup 85 = .ok (.invokevirtual 48, 3) := by decide +kernel
theorem dL_setup_88 : decode cL_setup 88 = .ok (.ldc 68, 2) := by decide +kernel
theorem dL_setup_90 : decode cL_setup 90 = .ok (.invokevirtual 57, 3) := by decide +kernel
theorem dL_setup_93 : decode cL_setup 93 = .ok (.aload_n 0, 1) := by decide +kernel
theorem dL_setup_94 : decode cL_setup 94 = .ok (.iconst 2, 1) := by decide +kernel
theorem dL_setup_95 : decode cL_setup 95 = .ok (.iconst 1, 1) := by decide +kernel
theorem dL_setup_96 : decode cL_setup 96 = .ok (.bipush 60, 2) := by decide +kernel
theorem dL_setup_98 : decode cL_setup 98 = .ok (.invokestatic 62, 3) := by decide +kernel
theorem dL_setup_101 : decode cL_setup 101 = .ok (.invokevirtual 48, 3) := by decide +kernel
theorem dL_setup_104 : decode cL_setup 104 = .ok (.ldc 70, 2) := by decide +kernel
theorem dL_setup_106 : decode cL_setup 106 = .ok (.invokevirtual 57, 3) := by decide +kernel
theorem dL_setup_109 : decode cL_setup 109 = .ok (.aload_n 0, 1) := by decide +kernel
theorem dL_setup_110 : decode cL_setup 110 = .ok (.iconst 3, 1) := by decide +kernel
theorem dL_setup_111 : decode cL_setup 111 = .ok (.iconst 1, 1) := by decide +kernel
theorem dL_setup_112 : decode cL_setup 112 = .ok (.bipush 9, 2) := by decide +kernel
theorem dL_setup_114 : decode cL_setup 114 = .ok (.invokestatic 62, 3) := by decide +kernel
theorem dL_setup_117 : decode cL_setup 117 = .ok (.invokevirtual 48, 3) := by decide +kernel
theorem dL_setup_120 : decode cL_setup 120 = .ok (.ldc 72, 2) := by decide +kernel
theorem dL_setup_122 : decode cL_setup 122 = .ok (.invokevirtual 57, 3) := by decide +kernel
theorem dL_setup_125 : decode cL_setup 125 = .ok (.aload_n 0, 1) := by decide +kernel
theorem dL_setup_126 : decode cL_setup 126 = .ok (.iconst 4, 1) := by decide +kernel
theorem dL_setup_127 : decode cL_setup 127 = .ok (.iconst 0, 1) := by decide +kernel
theorem dL_setup_128 : decode cL_setup 128 = .ok (.bipush 99, 2) := by decide +kernel
theorem dL_setup_130 : decode cL_setup 130 = .ok (.invokestatic 62, 3) := by decide +kernel
theorem dL_setup_133 : decode cL_setup 133 = .ok (.invokevirtual 48, 3) := by decide +kernel
theorem dL_setup_136 : decode cL_setup 136 = .ok (.bipush 59, 2) := by decide +kernel
theorem dL_setup_138 : decode cL_setup 138 = .ok (.invokevirtual 52, 3) := by decide +kernel
theorem dL_setup_141 : decode cL_setup 141 = .ok (.pop, 1) := by decide +kernel
theorem dL_setup_142 : decode cL_setup 142 = .ok (.aload_n 0, 1) := by decide +kernel
theorem dL_setup_143 : decode cL_setup 143 = .ok (.iconst 5, 1) := by decide +kernel
theorem dL_setup_144 : decode cL_setup 144 = .ok (.iconst 0, 1) := by decide +kernel
theorem dL_setup_145 : decode cL_setup 145 = .ok (.iconst 2, 1) := by decide +kernel
theorem dL_setup_146 : decode cL_setup 146 = .ok (.invokestatic 62, 3) := by decide +kernel
theorem dL_setup_149 : decode cL_setup 149 = .ok (.lookupswitch 47 #[(0, 27), (1, 37)], 27) := by decide +kernel
theorem dL_setup_176 : decode cL_setup 176 = .ok (.aload_n 3, 1) := by decide +kernel
theorem dL_setup_177 : decode cL_setup 177 = .ok (.ldc 74, 2) := by decide +kernel
theorem dL_setup_179 : decode cL_setup 179 = .ok (.invokevirtual 57, 3) := by decide +kernel
theorem dL_setup_182 : decode cL_setup 182 = .ok (.pop, 1) := by decide +kernel
theorem dL_setup_183 : decode cL_setup 183 = .ok (.goto 20, 3) := by decide +kernel
theorem dL_setup_186 : decode cL_setup 186 = .ok (.aload_n 3, 1) := by decide +kernel
theorem dL_setup_187 : decode cL_setup 187 = .ok (.ldc 76, 2) := by decide +kernel
theorem dL_setup_189 : decode cL_setup 189 = .ok (.invokevirtual 57, 3) := by decide +kernel
theorem dL_setup_192 : decode cL_setup 192 = .ok (.pop, 1) := by decide +kernel
theorem dL_setup_193 : decode cL_setup 193 = .ok (.goto 10, 3) := by decide +kernel
theorem dL_setup_196 : decode cL_setup 196 = .ok (.aload_n 3, 1) := by decide +kernel
theorem dL_setup_197 : decode cL_setup 197 = .ok (.ldc 78, 2) := by decide +kernel
theorem dL_setup_199 : decode cL_setup 199 = .ok (.invokevirtual 57, 3) := by decide +kernel
theorem dL_setup_202 : decode cL_setup 202 = .ok (.pop, 1) := by decide +kernel
theorem dL_setup_203 : decode cL_setup 203 = .ok (.aload_n 3, 1) := by decide +kernel
theorem dL_setup_204 : decode cL_setup 204 = .ok (.invokevirtual 80, 3) := by decide +kernel
theorem dL_setup_207 : decode cL_setup 207 = .ok (.areturn, 1) := by decide +kernel
set_option maxHeartbeats 4000000 in
set_option maxRecDepth 100000 in
theorem c_L_setup (l : Launch) (k : KT) (n : Nat) (hE : EH k) (hG : DGH k) (b_s L_s : Nat) (xs_s : Nat → Int32) (P q e0 e1 e2 e3 e4 : Nat) (o : Int32) (hP : P ≤ 100) (hq : q ≤ 8) (he0 : e0 ≤ 100) (he1 : e1 ≤ 100) (he2 : e2 ≤ 100) (he3 : e3 ≤ 100) (he4 : e4 ≤ 100) (hd0 : f_L_draw n L_s xs_s (0 : Int32) (1 : Int32) (9 : Int32) = some (nI e0)) (hd1 : f_L_draw n L_s xs_s (1 : Int32) (1 : Int32) (100 : Int32) = some (nI e1)) (hd2 : f_L_draw n L_s xs_s (2 : Int32) (1 : Int32) (60 : Int32) = some (nI e2)) (hd3 : f_L_draw n L_s xs_s (3 : Int32) (1 : Int32) (9 : Int32) = some (nI e3)) (hd4 : f_L_draw n L_s xs_s (4 : Int32) (0 : Int32) (99 : Int32) = some (nI e4)) (hd5 : f_L_draw n L_s xs_s (5 : Int32) (0 : Int32) (2 : Int32) = some o) (hSX : SXH k b_s L_s xs_s) : CG l k yL_setup cL_setup 5 (some (.object "java/lang/String")) 9 100 90000 230 [.ref b_s, .int (nI P), .int (nI q)] [] (Qw k (fun u : Nat × Nat × (Nat → Int32) => wStr k u.1 u.2.1 (setupL P q e0 e1 e2 e3 e4 o).length u.2.2) (fun (r : Nat) (u : Nat × Nat × (Nat → Int32)) => u.1 = r ∧ sb_Lat (tx (setupL P q e0 e1 e2 e3 e4 o)) (setupL P q e0 e1 e2 e3 e4 o).length u.2.2 ∧ sb_Fit u.2.2)) := by
  refine CG.ofW (by decide) (Nat.le_of_ble_eq_true rfl) (fun p e s m args below meth c A Q E hnm hW hA hret ls hl => ?_)
  have hl : lv_has ls 5 [(0, .ref b_s), (1, .int (nI P)), (2, .int (nI q))] := hl
  obtain ⟨s0, s1, s2, s3, s4, s5, s6, s7, s8, s9⟩ := sl_len
  have g0 := sb_dg_in P
  have g1 := sb_dg_in e0
  have g2 := sb_dg_in e1
  have g3 := sb_dg_in e2
  have g4 := sb_dg_in e3
  have g5 := sb_dg_in e4
  have hdB : ∀ i, i ≤ 8 → (headL P ++ procL i).length ≤ 97 := fun i hi => by
    simp only [headL, List.length_append, sx_numlen, procL_len, s0, List.length_cons, List.length_nil]
    omega
  refine nw_L_41 E hW hA (by decide) (by decide) dL_setup_0 (fun a H hW => ?_)
  have FIN : ∀ (x : Int32) (hx : x = ordX o) (v cap : Nat) (ml : Int32) (f : Nat → Int32) (H : Heap) (locs : List Loc) (ls : Array Slot) (hS : SBo (tx ((bodyL P q e0 e1 e2 e3 e4) ++ sLst x)) (((bodyL P q e0 e1 e2 e3 e4) ++ sLst x)).length cap f) (hW : WD k A s.heap (wSB k a v cap ml (((bodyL P q e0 e1 e2 e3 e4) ++ sLst x)).length f) H locs) (hl : lv_has ls 5 [(3, .ref a), (0, .ref b_s)]), W p l e { frames := 9, cells := 100, slots := 90000, locals := 230 } s m args below meth c H locs (80) (70000) Q (F0 m 203 ls []) := by
    intro x hx v cap ml f H locs ls hS hW hl
    refine k_aload_n E hl 0 dL_setup_203 rfl ?_
    subst hx
    refine k_finw (X := []) (k_rV (X := []) (As := []) (rest := []) (c_toS l k hE a _ _ ⟨v, cap, ml, f, rfl, hS⟩) E (vl_L_80.cw E ⟨by decide, by decide⟩) dL_setup_204 (va_recv E.hK hW.1 (q := (RJ4, TJ4, 4)) (ci := 1) rfl (q0 := 0) rfl) hW hA hl rfl ⟨by decide, by decide⟩ (Nat.le_of_ble_eq_true rfl)) E hW hA (fun r u H locs hp hW => ?_)
    exact hret r u _ _ _ _ _ _ hW hp (by decide) (by decide) dL_setup_207
  have REST : ∀ (v cap : Nat) (ml : Int32) (f : Nat → Int32) (H : Heap) (locs : List Loc) (ls : Array Slot) (hS : SBo (tx (headL P ++ procL q)) ((headL P ++ procL q)).length cap f) (hW : WD k A s.heap (wSB k a v cap ml ((headL P ++ procL q)).length f) H locs) (hl : lv_has ls 5 [(3, .ref a), (0, .ref b_s)]), W p l e { frames := 9, cells := 100, slots := 90000, locals := 230 } s m args below meth c H locs (40) (40000) Q (F0 m 55 ls []) := by
    intro v cap ml f H locs ls hS hW hl
    have by0 := hdB q hq
    refine k_aload_n E hl 0 dL_setup_55 rfl ?_
    refine k_lstr hE E hW rfl 2 (17 : Int32) (by decide) (by decide) rfl dL_setup_56 ?_
    refine k_finw (X := []) (k_rV (X := []) (As := [.ref (strAd k (17 : Int32))]) (rest := []) (c_apS l k hE a (headL P ++ procL q) _ ⟨v, cap, ml, f, rfl, hS⟩ (17 : Int32) (by unfold sIn; decide) (by rw [s2]; omega)) E (vl_L_57.cw E ⟨by decide, by decide⟩) dL_setup_58 (va_recv E.hK hW.1 (q := (RJ4, TJ4, 4)) (ci := 1) rfl (q0 := 0) rfl) hW hA hl rfl ⟨by show _ ≤ 100; omega, by show _ ≤ 90000; omega⟩ (Nat.le_of_ble_eq_true rfl)) E hW hA (fun r u H locs hp hW => ?_)
    obtain ⟨h9, v, cap, ml, f, h8, hS⟩ := hp
    subst h9
    subst h8
    obtain ⟨y1, ey1, by1⟩ : ∃ z, z = (headL P ++ procL q) ++ sLst (17 : Int32) ∧ z.length ≤ 103 := ⟨_, rfl, by rw [List.length_append, s2]; omega⟩
    have hW : WD k A s.heap (wSB k a v cap ml ((headL P ++ procL q) ++ sLst (17 : Int32)).length f) H locs := hW
    rw [← ey1] at hS hW
    refine k_aload_n E hl 1 dL_setup_61 rfl ?_
    refine lv_iconst (v := (0 : Int32)) E.hx E.hb dL_setup_62 ic_0 ?_
    refine lv_iconst (v := (1 : Int32)) E.hx E.hb dL_setup_63 ic_1 ?_
    refine lv_bipush (v := (9 : Int32)) E.hx E.hb dL_setup_64 bp_9 ?_
    refine k_fini (X := (wSB k a v cap ml y1.length f)) (k_rS (X := (wSB k a v cap ml y1.length f)) (As := [.ref b_s, .int (0 : Int32), .int (1 : Int32), .int (9 : Int32)]) (rest := [.ref a]) (c_L_draw n l k b_s L_s xs_s (0 : Int32) (1 : Int32) (9 : Int32) (nI e0) hd0 hSX) E sl_L_62 dL_setup_66 hW hA hl rfl ⟨by decide, by decide⟩ ⟨by decide, by decide⟩ (Nat.le_of_ble_eq_true rfl)) E hW hA (fun r u H locs hp hW => ?_)
    have hp : nI e0 = r := hp
    subst hp
    have hW : WD k A s.heap (wSB k a v cap ml y1.length f) H locs := by rw [List.append_nil] at hW; exact hW
    refine k_finw (X := []) (k_rV (X := []) (As := [.int (nI e0)]) (rest := []) (c_apI l k hE hG a y1 _ ⟨v, cap, ml, f, rfl, hS⟩ e0 he0 (by omega)) E (vl_L_48.cw E ⟨by decide, by decide⟩) dL_setup_69 (va_recv E.hK hW.1 (q := (RJ4, TJ4, 4)) (ci := 1) rfl (q0 := 0) rfl) hW hA hl rfl ⟨by show _ ≤ 100; omega, by show _ ≤ 90000; omega⟩ (Nat.le_of_ble_eq_true rfl)) E hW hA (fun r u H locs hp hW => ?_)
    obtain ⟨h9, v, cap, ml, f, h8, hS⟩ := hp
    subst h9
    subst h8
    obtain ⟨y2, ey2, by2⟩ : ∃ z, z = y1 ++ sx_num e0 ∧ z.length ≤ 113 := ⟨_, rfl, by rw [List.length_append, sx_numlen]; omega⟩
    have hW : WD k A s.heap (wSB k a v cap ml (y1 ++ sx_num e0).length f) H locs := hW
    rw [← ey2] at hS hW
    refine k_lstr hE E hW rfl 3 (18 : Int32) (by decide) (by decide) rfl dL_setup_72 ?_
    refine k_finw (X := []) (k_rV (X := []) (As := [.ref (strAd k (18 : Int32))]) (rest := []) (c_apS l k hE a y2 _ ⟨v, cap, ml, f, rfl, hS⟩ (18 : Int32) (by unfold sIn; decide) (by rw [s3]; omega)) E (vl_L_57.cw E ⟨by decide, by decide⟩) dL_setup_74 (va_recv E.hK hW.1 (q := (RJ4, TJ4, 4)) (ci := 1) rfl (q0 := 0) rfl) hW hA hl rfl ⟨by show _ ≤ 100; omega, by show _ ≤ 90000; omega⟩ (Nat.le_of_ble_eq_true rfl)) E hW hA (fun r u H locs hp hW => ?_)
    obtain ⟨h9, v, cap, ml, f, h8, hS⟩ := hp
    subst h9
    subst h8
    obtain ⟨y3, ey3, by3⟩ : ∃ z, z = y2 ++ sLst (18 : Int32) ∧ z.length ≤ 119 := ⟨_, rfl, by rw [List.length_append, s3]; omega⟩
    have hW : WD k A s.heap (wSB k a v cap ml (y2 ++ sLst (18 : Int32)).length f) H locs := hW
    rw [← ey3] at hS hW
    refine k_aload_n E hl 1 dL_setup_77 rfl ?_
    refine lv_iconst (v := (1 : Int32)) E.hx E.hb dL_setup_78 ic_1 ?_
    refine lv_iconst (v := (1 : Int32)) E.hx E.hb dL_setup_79 ic_1 ?_
    refine lv_bipush (v := (100 : Int32)) E.hx E.hb dL_setup_80 bp_100 ?_
    refine k_fini (X := (wSB k a v cap ml y3.length f)) (k_rS (X := (wSB k a v cap ml y3.length f)) (As := [.ref b_s, .int (1 : Int32), .int (1 : Int32), .int (100 : Int32)]) (rest := [.ref a]) (c_L_draw n l k b_s L_s xs_s (1 : Int32) (1 : Int32) (100 : Int32) (nI e1) hd1 hSX) E sl_L_62 dL_setup_82 hW hA hl rfl ⟨by decide, by decide⟩ ⟨by decide, by decide⟩ (Nat.le_of_ble_eq_true rfl)) E hW hA (fun r u H locs hp hW => ?_)
    have hp : nI e1 = r := hp
    subst hp
    have hW : WD k A s.heap (wSB k a v cap ml y3.length f) H locs := by rw [List.append_nil] at hW; exact hW
    refine k_finw (X := []) (k_rV (X := []) (As := [.int (nI e1)]) (rest := []) (c_apI l k hE hG a y3 _ ⟨v, cap, ml, f, rfl, hS⟩ e1 he1 (by omega)) E (vl_L_48.cw E ⟨by decide, by decide⟩) dL_setup_85 (va_recv E.hK hW.1 (q := (RJ4, TJ4, 4)) (ci := 1) rfl (q0 := 0) rfl) hW hA hl rfl ⟨by show _ ≤ 100; omega, by show _ ≤ 90000; omega⟩ (Nat.le_of_ble_eq_true rfl)) E hW hA (fun r u H locs hp hW => ?_)
    obtain ⟨h9, v, cap, ml, f, h8, hS⟩ := hp
    subst h9
    subst h8
    obtain ⟨y4, ey4, by4⟩ : ∃ z, z = y3 ++ sx_num e1 ∧ z.length ≤ 129 := ⟨_, rfl, by rw [List.length_append, sx_numlen]; omega⟩
    have hW : WD k A s.heap (wSB k a v cap ml (y3 ++ sx_num e1).length f) H locs := hW
    rw [← ey4] at hS hW
    refine k_lstr hE E hW rfl 4 (19 : Int32) (by decide) (by decide) rfl dL_setup_88 ?_
    refine k_finw (X := []) (k_rV (X := []) (As := [.ref (strAd k (19 : Int32))]) (rest := []) (c_apS l k hE a y4 _ ⟨v, cap, ml, f, rfl, hS⟩ (19 : Int32) (by unfold sIn; decide) (by rw [s4]; omega)) E (vl_L_57.cw E ⟨by decide, by decide⟩) dL_setup_90 (va_recv E.hK hW.1 (q := (RJ4, TJ4, 4)) (ci := 1) rfl (q0 := 0) rfl) hW hA hl rfl ⟨by show _ ≤ 100; omega, by show _ ≤ 90000; omega⟩ (Nat.le_of_ble_eq_true rfl)) E hW hA (fun r u H locs hp hW => ?_)
    obtain ⟨h9, v, cap, ml, f, h8, hS⟩ := hp
    subst h9
    subst h8
    obtain ⟨y5, ey5, by5⟩ : ∃ z, z = y4 ++ sLst (19 : Int32) ∧ z.length ≤ 135 := ⟨_, rfl, by rw [List.length_append, s4]; omega⟩
    have hW : WD k A s.heap (wSB k a v cap ml (y4 ++ sLst (19 : Int32)).length f) H locs := hW
    rw [← ey5] at hS hW
    refine k_aload_n E hl 1 dL_setup_93 rfl ?_
    refine lv_iconst (v := (2 : Int32)) E.hx E.hb dL_setup_94 ic_2 ?_
    refine lv_iconst (v := (1 : Int32)) E.hx E.hb dL_setup_95 ic_1 ?_
    refine lv_bipush (v := (60 : Int32)) E.hx E.hb dL_setup_96 bp_60 ?_
    refine k_fini (X := (wSB k a v cap ml y5.length f)) (k_rS (X := (wSB k a v cap ml y5.length f)) (As := [.ref b_s, .int (2 : Int32), .int (1 : Int32), .int (60 : Int32)]) (rest := [.ref a]) (c_L_draw n l k b_s L_s xs_s (2 : Int32) (1 : Int32) (60 : Int32) (nI e2) hd2 hSX) E sl_L_62 dL_setup_98 hW hA hl rfl ⟨by decide, by decide⟩ ⟨by decide, by decide⟩ (Nat.le_of_ble_eq_true rfl)) E hW hA (fun r u H locs hp hW => ?_)
    have hp : nI e2 = r := hp
    subst hp
    have hW : WD k A s.heap (wSB k a v cap ml y5.length f) H locs := by rw [List.append_nil] at hW; exact hW
    refine k_finw (X := []) (k_rV (X := []) (As := [.int (nI e2)]) (rest := []) (c_apI l k hE hG a y5 _ ⟨v, cap, ml, f, rfl, hS⟩ e2 he2 (by omega)) E (vl_L_48.cw E ⟨by decide, by decide⟩) dL_setup_101 (va_recv E.hK hW.1 (q := (RJ4, TJ4, 4)) (ci := 1) rfl (q0 := 0) rfl) hW hA hl rfl ⟨by show _ ≤ 100; omega, by show _ ≤ 90000; omega⟩ (Nat.le_of_ble_eq_true rfl)) E hW hA (fun r u H locs hp hW => ?_)
    obtain ⟨h9, v, cap, ml, f, h8, hS⟩ := hp
    subst h9
    subst h8
    obtain ⟨y6, ey6, by6⟩ : ∃ z, z = y5 ++ sx_num e2 ∧ z.length ≤ 145 := ⟨_, rfl, by rw [List.length_append, sx_numlen]; omega⟩
    have hW : WD k A s.heap (wSB k a v cap ml (y5 ++ sx_num e2).length f) H locs := hW
    rw [← ey6] at hS hW
    refine k_lstr hE E hW rfl 5 (20 : Int32) (by decide) (by decide) rfl dL_setup_104 ?_
    refine k_finw (X := []) (k_rV (X := []) (As := [.ref (strAd k (20 : Int32))]) (rest := []) (c_apS l k hE a y6 _ ⟨v, cap, ml, f, rfl, hS⟩ (20 : Int32) (by unfold sIn; decide) (by rw [s5]; omega)) E (vl_L_57.cw E ⟨by decide, by decide⟩) dL_setup_106 (va_recv E.hK hW.1 (q := (RJ4, TJ4, 4)) (ci := 1) rfl (q0 := 0) rfl) hW hA hl rfl ⟨by show _ ≤ 100; omega, by show _ ≤ 90000; omega⟩ (Nat.le_of_ble_eq_true rfl)) E hW hA (fun r u H locs hp hW => ?_)
    obtain ⟨h9, v, cap, ml, f, h8, hS⟩ := hp
    subst h9
    subst h8
    obtain ⟨y7, ey7, by7⟩ : ∃ z, z = y6 ++ sLst (20 : Int32) ∧ z.length ≤ 155 := ⟨_, rfl, by rw [List.length_append, s5]; omega⟩
    have hW : WD k A s.heap (wSB k a v cap ml (y6 ++ sLst (20 : Int32)).length f) H locs := hW
    rw [← ey7] at hS hW
    refine k_aload_n E hl 1 dL_setup_109 rfl ?_
    refine lv_iconst (v := (3 : Int32)) E.hx E.hb dL_setup_110 ic_3 ?_
    refine lv_iconst (v := (1 : Int32)) E.hx E.hb dL_setup_111 ic_1 ?_
    refine lv_bipush (v := (9 : Int32)) E.hx E.hb dL_setup_112 bp_9 ?_
    refine k_fini (X := (wSB k a v cap ml y7.length f)) (k_rS (X := (wSB k a v cap ml y7.length f)) (As := [.ref b_s, .int (3 : Int32), .int (1 : Int32), .int (9 : Int32)]) (rest := [.ref a]) (c_L_draw n l k b_s L_s xs_s (3 : Int32) (1 : Int32) (9 : Int32) (nI e3) hd3 hSX) E sl_L_62 dL_setup_114 hW hA hl rfl ⟨by decide, by decide⟩ ⟨by decide, by decide⟩ (Nat.le_of_ble_eq_true rfl)) E hW hA (fun r u H locs hp hW => ?_)
    have hp : nI e3 = r := hp
    subst hp
    have hW : WD k A s.heap (wSB k a v cap ml y7.length f) H locs := by rw [List.append_nil] at hW; exact hW
    refine k_finw (X := []) (k_rV (X := []) (As := [.int (nI e3)]) (rest := []) (c_apI l k hE hG a y7 _ ⟨v, cap, ml, f, rfl, hS⟩ e3 he3 (by omega)) E (vl_L_48.cw E ⟨by decide, by decide⟩) dL_setup_117 (va_recv E.hK hW.1 (q := (RJ4, TJ4, 4)) (ci := 1) rfl (q0 := 0) rfl) hW hA hl rfl ⟨by show _ ≤ 100; omega, by show _ ≤ 90000; omega⟩ (Nat.le_of_ble_eq_true rfl)) E hW hA (fun r u H locs hp hW => ?_)
    obtain ⟨h9, v, cap, ml, f, h8, hS⟩ := hp
    subst h9
    subst h8
    obtain ⟨y8, ey8, by8⟩ : ∃ z, z = y7 ++ sx_num e3 ∧ z.length ≤ 165 := ⟨_, rfl, by rw [List.length_append, sx_numlen]; omega⟩
    have hW : WD k A s.heap (wSB k a v cap ml (y7 ++ sx_num e3).length f) H locs := hW
    rw [← ey8] at hS hW
    refine k_lstr hE E hW rfl 6 (21 : Int32) (by decide) (by decide) rfl dL_setup_120 ?_
    refine k_finw (X := []) (k_rV (X := []) (As := [.ref (strAd k (21 : Int32))]) (rest := []) (c_apS l k hE a y8 _ ⟨v, cap, ml, f, rfl, hS⟩ (21 : Int32) (by unfold sIn; decide) (by rw [s6]; omega)) E (vl_L_57.cw E ⟨by decide, by decide⟩) dL_setup_122 (va_recv E.hK hW.1 (q := (RJ4, TJ4, 4)) (ci := 1) rfl (q0 := 0) rfl) hW hA hl rfl ⟨by show _ ≤ 100; omega, by show _ ≤ 90000; omega⟩ (Nat.le_of_ble_eq_true rfl)) E hW hA (fun r u H locs hp hW => ?_)
    obtain ⟨h9, v, cap, ml, f, h8, hS⟩ := hp
    subst h9
    subst h8
    obtain ⟨y9, ey9, by9⟩ : ∃ z, z = y8 ++ sLst (21 : Int32) ∧ z.length ≤ 173 := ⟨_, rfl, by rw [List.length_append, s6]; omega⟩
    have hW : WD k A s.heap (wSB k a v cap ml (y8 ++ sLst (21 : Int32)).length f) H locs := hW
    rw [← ey9] at hS hW
    refine k_aload_n E hl 1 dL_setup_125 rfl ?_
    refine lv_iconst (v := (4 : Int32)) E.hx E.hb dL_setup_126 ic_4 ?_
    refine lv_iconst (v := (0 : Int32)) E.hx E.hb dL_setup_127 ic_0 ?_
    refine lv_bipush (v := (99 : Int32)) E.hx E.hb dL_setup_128 bp_99 ?_
    refine k_fini (X := (wSB k a v cap ml y9.length f)) (k_rS (X := (wSB k a v cap ml y9.length f)) (As := [.ref b_s, .int (4 : Int32), .int (0 : Int32), .int (99 : Int32)]) (rest := [.ref a]) (c_L_draw n l k b_s L_s xs_s (4 : Int32) (0 : Int32) (99 : Int32) (nI e4) hd4 hSX) E sl_L_62 dL_setup_130 hW hA hl rfl ⟨by decide, by decide⟩ ⟨by decide, by decide⟩ (Nat.le_of_ble_eq_true rfl)) E hW hA (fun r u H locs hp hW => ?_)
    have hp : nI e4 = r := hp
    subst hp
    have hW : WD k A s.heap (wSB k a v cap ml y9.length f) H locs := by rw [List.append_nil] at hW; exact hW
    refine k_finw (X := []) (k_rV (X := []) (As := [.int (nI e4)]) (rest := []) (c_apI l k hE hG a y9 _ ⟨v, cap, ml, f, rfl, hS⟩ e4 he4 (by omega)) E (vl_L_48.cw E ⟨by decide, by decide⟩) dL_setup_133 (va_recv E.hK hW.1 (q := (RJ4, TJ4, 4)) (ci := 1) rfl (q0 := 0) rfl) hW hA hl rfl ⟨by show _ ≤ 100; omega, by show _ ≤ 90000; omega⟩ (Nat.le_of_ble_eq_true rfl)) E hW hA (fun r u H locs hp hW => ?_)
    obtain ⟨h9, v, cap, ml, f, h8, hS⟩ := hp
    subst h9
    subst h8
    obtain ⟨y10, ey10, by10⟩ : ∃ z, z = y9 ++ sx_num e4 ∧ z.length ≤ 183 := ⟨_, rfl, by rw [List.length_append, sx_numlen]; omega⟩
    have hW : WD k A s.heap (wSB k a v cap ml (y9 ++ sx_num e4).length f) H locs := hW
    rw [← ey10] at hS hW
    refine lv_bipush (v := (59 : Int32)) E.hx E.hb dL_setup_136 bp_59 ?_
    refine k_finw (X := []) (k_rV (X := []) (As := [.int (nI 59)]) (rest := []) (c_apC l k hE a y10 _ ⟨v, cap, ml, f, rfl, hS⟩ 59 (by omega) (by omega)) E (vl_L_52.cw E ⟨by decide, by decide⟩) dL_setup_138 (va_recv E.hK hW.1 (q := (RJ4, TJ4, 4)) (ci := 1) rfl (q0 := 0) rfl) hW hA hl rfl ⟨by show _ ≤ 100; omega, by show _ ≤ 90000; omega⟩ (Nat.le_of_ble_eq_true rfl)) E hW hA (fun r u H locs hp hW => ?_)
    obtain ⟨h9, v, cap, ml, f, h8, hS⟩ := hp
    subst h9
    subst h8
    obtain ⟨y11, ey11, by11⟩ : ∃ z, z = y10 ++ [59] ∧ z.length ≤ 184 := ⟨_, rfl, by rw [List.length_append, List.length_singleton]; omega⟩
    have hW : WD k A s.heap (wSB k a v cap ml (y10 ++ [59]).length f) H locs := hW
    rw [← ey11] at hS hW
    refine lv_pop E.hx E.hb dL_setup_141 rfl ?_
    refine k_aload_n E hl 1 dL_setup_142 rfl ?_
    refine lv_iconst (v := (5 : Int32)) E.hx E.hb dL_setup_143 ic_5 ?_
    refine lv_iconst (v := (0 : Int32)) E.hx E.hb dL_setup_144 ic_0 ?_
    refine lv_iconst (v := (2 : Int32)) E.hx E.hb dL_setup_145 ic_2 ?_
    refine k_fini (X := (wSB k a v cap ml y11.length f)) (k_rS (X := (wSB k a v cap ml y11.length f)) (As := [.ref b_s, .int (5 : Int32), .int (0 : Int32), .int (2 : Int32)]) (rest := []) (c_L_draw n l k b_s L_s xs_s (5 : Int32) (0 : Int32) (2 : Int32) (o) hd5 hSX) E sl_L_62 dL_setup_146 hW hA hl rfl ⟨by decide, by decide⟩ ⟨by decide, by decide⟩ (Nat.le_of_ble_eq_true rfl)) E hW hA (fun r u H locs hp hW => ?_)
    have hp : o = r := hp
    subst hp
    have hW : WD k A s.heap (wSB k a v cap ml y11.length f) H locs := by rw [List.append_nil] at hW; exact hW
    have el9 : y11 = (bodyL P q e0 e1 e2 e3 e4) := by rw [ey11, ey10, ey9, ey8, ey7, ey6, ey5, ey4, ey3, ey2, ey1]; rfl
    rw [el9] at hS hW
    by_cases hc : o = (0 : Int32)
    · refine lv_lookup (off := (27)) (tgt := 176) E.hx E.hb dL_setup_149 (by decide) (by rw [hc]; rfl) (by decide) ?_
      have bx0 := bodyL_len (P := P) (e0 := e0) (e1 := e1) (e2 := e2) (e3 := e3) (e4 := e4) hq
      refine k_aload_n E hl 0 dL_setup_176 rfl ?_
      refine k_lstr hE E hW rfl 7 (22 : Int32) (by decide) (by decide) rfl dL_setup_177 ?_
      refine k_finw (X := []) (k_rV (X := []) (As := [.ref (strAd k (22 : Int32))]) (rest := []) (c_apS l k hE a (bodyL P q e0 e1 e2 e3 e4) _ ⟨v, cap, ml, f, rfl, hS⟩ (22 : Int32) (by unfold sIn; decide) (by rw [s7]; omega)) E (vl_L_57.cw E ⟨by decide, by decide⟩) dL_setup_179 (va_recv E.hK hW.1 (q := (RJ4, TJ4, 4)) (ci := 1) rfl (q0 := 0) rfl) hW hA hl rfl ⟨by show _ ≤ 100; omega, by show _ ≤ 90000; omega⟩ (Nat.le_of_ble_eq_true rfl)) E hW hA (fun r u H locs hp hW => ?_)
      obtain ⟨h9, v, cap, ml, f, h8, hS⟩ := hp
      subst h9
      subst h8
      obtain ⟨x1, ex1, bx1⟩ : ∃ z, z = (bodyL P q e0 e1 e2 e3 e4) ++ sLst (22 : Int32) ∧ z.length ≤ 232 := ⟨_, rfl, by rw [List.length_append, s7]; omega⟩
      have hW : WD k A s.heap (wSB k a v cap ml ((bodyL P q e0 e1 e2 e3 e4) ++ sLst (22 : Int32)).length f) H locs := hW
      rw [← ex1] at hS hW
      refine lv_pop E.hx E.hb dL_setup_182 rfl ?_
      refine lv_goto (tgt := 203) E.hx E.hb dL_setup_183 (by decide) ?_
      rw [ex1] at hS hW
      exact W.widen (by decide) (by decide) (FIN (22 : Int32) (by unfold ordX; simp [hc]) v cap ml f _ _ _ hS hW hl)
    have hn0 := hc; clear hc
    by_cases hc : o = (1 : Int32)
    · refine lv_lookup (off := (37)) (tgt := 186) E.hx E.hb dL_setup_149 (by decide) (by rw [hc]; rfl) (by decide) ?_
      have bx0 := bodyL_len (P := P) (e0 := e0) (e1 := e1) (e2 := e2) (e3 := e3) (e4 := e4) hq
      refine k_aload_n E hl 0 dL_setup_186 rfl ?_
      refine k_lstr hE E hW rfl 8 (23 : Int32) (by decide) (by decide) rfl dL_setup_187 ?_
      refine k_finw (X := []) (k_rV (X := []) (As := [.ref (strAd k (23 : Int32))]) (rest := []) (c_apS l k hE a (bodyL P q e0 e1 e2 e3 e4) _ ⟨v, cap, ml, f, rfl, hS⟩ (23 : Int32) (by unfold sIn; decide) (by rw [s8]; omega)) E (vl_L_57.cw E ⟨by decide, by decide⟩) dL_setup_189 (va_recv E.hK hW.1 (q := (RJ4, TJ4, 4)) (ci := 1) rfl (q0 := 0) rfl) hW hA hl rfl ⟨by show _ ≤ 100; omega, by show _ ≤ 90000; omega⟩ (Nat.le_of_ble_eq_true rfl)) E hW hA (fun r u H locs hp hW => ?_)
      obtain ⟨h9, v, cap, ml, f, h8, hS⟩ := hp
      subst h9
      subst h8
      obtain ⟨x1, ex1, bx1⟩ : ∃ z, z = (bodyL P q e0 e1 e2 e3 e4) ++ sLst (23 : Int32) ∧ z.length ≤ 232 := ⟨_, rfl, by rw [List.length_append, s8]; omega⟩
      have hW : WD k A s.heap (wSB k a v cap ml ((bodyL P q e0 e1 e2 e3 e4) ++ sLst (23 : Int32)).length f) H locs := hW
      rw [← ex1] at hS hW
      refine lv_pop E.hx E.hb dL_setup_192 rfl ?_
      refine lv_goto (tgt := 203) E.hx E.hb dL_setup_193 (by decide) ?_
      rw [ex1] at hS hW
      exact W.widen (by decide) (by decide) (FIN (23 : Int32) (by unfold ordX; simp [hn0, hc]) v cap ml f _ _ _ hS hW hl)
    have hn1 := hc; clear hc
    have hm0 := fun (z : o.toInt = 0) => hn0 (Int32.toInt_inj.mp (z.trans (show (0 : Int) = (0 : Int32).toInt from by decide)))
    have hm1 := fun (z : o.toInt = 1) => hn1 (Int32.toInt_inj.mp (z.trans (show (1 : Int) = (1 : Int32).toInt from by decide)))
    refine lv_lookup (off := (47)) (tgt := 196) E.hx E.hb dL_setup_149 (by decide) (by simp [Op.lookupswitch.offset, show ¬ (0 : Int) = o.toInt from fun z => hm0 z.symm, show ¬ (1 : Int) = o.toInt from fun z => hm1 z.symm]) (by decide) ?_
    have bx0 := bodyL_len (P := P) (e0 := e0) (e1 := e1) (e2 := e2) (e3 := e3) (e4 := e4) hq
    refine k_aload_n E hl 0 dL_setup_196 rfl ?_
    refine k_lstr hE E hW rfl 9 (24 : Int32) (by decide) (by decide) rfl dL_setup_197 ?_
    refine k_finw (X := []) (k_rV (X := []) (As := [.ref (strAd k (24 : Int32))]) (rest := []) (c_apS l k hE a (bodyL P q e0 e1 e2 e3 e4) _ ⟨v, cap, ml, f, rfl, hS⟩ (24 : Int32) (by unfold sIn; decide) (by rw [s9]; omega)) E (vl_L_57.cw E ⟨by decide, by decide⟩) dL_setup_199 (va_recv E.hK hW.1 (q := (RJ4, TJ4, 4)) (ci := 1) rfl (q0 := 0) rfl) hW hA hl rfl ⟨by show _ ≤ 100; omega, by show _ ≤ 90000; omega⟩ (Nat.le_of_ble_eq_true rfl)) E hW hA (fun r u H locs hp hW => ?_)
    obtain ⟨h9, v, cap, ml, f, h8, hS⟩ := hp
    subst h9
    subst h8
    obtain ⟨x1, ex1, bx1⟩ : ∃ z, z = (bodyL P q e0 e1 e2 e3 e4) ++ sLst (24 : Int32) ∧ z.length ≤ 232 := ⟨_, rfl, by rw [List.length_append, s9]; omega⟩
    have hW : WD k A s.heap (wSB k a v cap ml ((bodyL P q e0 e1 e2 e3 e4) ++ sLst (24 : Int32)).length f) H locs := hW
    rw [← ex1] at hS hW
    refine lv_pop E.hx E.hb dL_setup_202 rfl ?_
    rw [ex1] at hS hW
    exact W.widen (by decide) (by decide) (FIN (24 : Int32) (by unfold ordX; simp [hn0, hn1]) v cap ml f _ _ _ hS hW hl)
  have LOOP : ∀ (d i : Nat) (v cap : Nat) (ml : Int32) (f : Nat → Int32) (H : Heap) (locs : List Loc) (ls : Array Slot) (hS : SBo (tx (headL P ++ procL i)) ((headL P ++ procL i)).length cap f) (hW : WD k A s.heap (wSB k a v cap ml ((headL P ++ procL i)).length f) H locs) (hl : lv_has ls 5 [(4, .int (nI i)), (3, .ref a), (0, .ref b_s), (1, .int (nI P)), (2, .int (nI q))]) (hid : i + d = q), W p l e { frames := 9, cells := 100, slots := 90000, locals := 230 } s m args below meth c H locs (10 + 3 * i) (10000 + 2100 * i) Q (F0 m 22 ls []) := by
    intro d
    induction d with
    | zero =>
      intro i v cap ml f H locs ls hS hW hl hid
      refine k_iload E hl 0 dL_setup_22 rfl ?_
      refine k_iload_n E hl 4 dL_setup_24 rfl ?_
      refine lv_icmp_ge (tgt := 55) E.hx E.hb dL_setup_25 (by decide) (fun hc => ?_) (fun hc => ?_)
      · obtain rfl : i = q := by
          have := (nI_leI (a := q) (b := i) (by omega) (by omega)).mp hc
          omega
        exact W.widen (by omega) (by omega) (REST v cap ml f _ _ _ hS hW (lv_sub hl [1, 2] rfl))
      exact absurd (nI_le (show q ≤ i by omega) (by omega)) hc
    | succ d ih =>
      intro i v cap ml f H locs ls hS hW hl hid
      refine k_iload E hl 0 dL_setup_22 rfl ?_
      refine k_iload_n E hl 4 dL_setup_24 rfl ?_
      refine lv_icmp_ge (tgt := 55) E.hx E.hb dL_setup_25 (by decide) (fun hc => ?_) (fun hc => ?_)
      · obtain rfl : i = q := by
          have := (nI_leI (a := q) (b := i) (by omega) (by omega)).mp hc
          omega
        exact W.widen (by omega) (by omega) (REST v cap ml f _ _ _ hS hW (lv_sub hl [1, 2] rfl))
      have hlt : i < q := Nat.lt_of_not_le fun h => hc (nI_le h (by omega))
      have bx0 := hdB i (by omega)
      refine k_aload_n E hl 1 dL_setup_28 rfl ?_
      refine k_lstr hE E hW rfl 1 (16 : Int32) (by decide) (by decide) rfl dL_setup_29 ?_
      refine k_finw (X := []) (k_rV (X := []) (As := [.ref (strAd k (16 : Int32))]) (rest := []) (c_apS l k hE a (headL P ++ procL i) _ ⟨v, cap, ml, f, rfl, hS⟩ (16 : Int32) (by unfold sIn; decide) (by rw [s1]; omega)) E (vl_L_57.cw E ⟨by decide, by decide⟩) dL_setup_31 (va_recv E.hK hW.1 (q := (RJ4, TJ4, 4)) (ci := 1) rfl (q0 := 0) rfl) hW hA hl rfl ⟨by show _ ≤ 100; omega, by show _ ≤ 90000; omega⟩ (Nat.le_of_ble_eq_true rfl)) E hW hA (fun r u H locs hp hW => ?_)
      obtain ⟨h9, v, cap, ml, f, h8, hS⟩ := hp
      subst h9
      subst h8
      obtain ⟨x1, ex1, bx1⟩ : ∃ z, z = (headL P ++ procL i) ++ sLst (16 : Int32) ∧ z.length ≤ 105 := ⟨_, rfl, by rw [List.length_append, s1]; omega⟩
      have hW : WD k A s.heap (wSB k a v cap ml ((headL P ++ procL i) ++ sLst (16 : Int32)).length f) H locs := hW
      rw [← ex1] at hS hW
      refine lv_bipush (v := (112 : Int32)) E.hx E.hb dL_setup_34 bp_112 ?_
      refine k_iload E hl 0 dL_setup_36 rfl ?_
      refine lv_iadd E.hx E.hb dL_setup_38 ?_
      refine k_topi (y := nI (112 + i)) (nI_add 112 i).symm ?_
      refine lv_i2c (v := nI (112 + i)) E.hx E.hb dL_setup_39 (pk_charI (by omega)) ?_
      refine k_finw (X := []) (k_rV (X := []) (As := [.int (nI (112 + i))]) (rest := []) (c_apC l k hE a x1 _ ⟨v, cap, ml, f, rfl, hS⟩ (112 + i) (by omega) (by omega)) E (vl_L_52.cw E ⟨by decide, by decide⟩) dL_setup_40 (va_recv E.hK hW.1 (q := (RJ4, TJ4, 4)) (ci := 1) rfl (q0 := 0) rfl) hW hA hl rfl ⟨by show _ ≤ 100; omega, by show _ ≤ 90000; omega⟩ (Nat.le_of_ble_eq_true rfl)) E hW hA (fun r u H locs hp hW => ?_)
      obtain ⟨h9, v, cap, ml, f, h8, hS⟩ := hp
      subst h9
      subst h8
      obtain ⟨x2, ex2, bx2⟩ : ∃ z, z = x1 ++ [112 + i] ∧ z.length ≤ 106 := ⟨_, rfl, by rw [List.length_append, List.length_singleton]; omega⟩
      have hW : WD k A s.heap (wSB k a v cap ml (x1 ++ [112 + i]).length f) H locs := hW
      rw [← ex2] at hS hW
      refine lv_bipush (v := (59 : Int32)) E.hx E.hb dL_setup_43 bp_59 ?_
      refine k_finw (X := []) (k_rV (X := []) (As := [.int (nI 59)]) (rest := []) (c_apC l k hE a x2 _ ⟨v, cap, ml, f, rfl, hS⟩ 59 (by omega) (by omega)) E (vl_L_52.cw E ⟨by decide, by decide⟩) dL_setup_45 (va_recv E.hK hW.1 (q := (RJ4, TJ4, 4)) (ci := 1) rfl (q0 := 0) rfl) hW hA hl rfl ⟨by show _ ≤ 100; omega, by show _ ≤ 90000; omega⟩ (Nat.le_of_ble_eq_true rfl)) E hW hA (fun r u H locs hp hW => ?_)
      obtain ⟨h9, v, cap, ml, f, h8, hS⟩ := hp
      subst h9
      subst h8
      obtain ⟨x3, ex3, bx3⟩ : ∃ z, z = x2 ++ [59] ∧ z.length ≤ 107 := ⟨_, rfl, by rw [List.length_append, List.length_singleton]; omega⟩
      have hW : WD k A s.heap (wSB k a v cap ml (x2 ++ [59]).length f) H locs := hW
      rw [← ex3] at hS hW
      refine lv_pop E.hx E.hb dL_setup_48 rfl ?_
      refine k_iinc (lv' := [(4, .int (nI (i + 1))), (3, .ref a), (0, .ref b_s), (1, .int (nI P)), (2, .int (nI q))]) E hl 0 dL_setup_49 rfl (((nI_add i 1).symm).trans (congrArg (fun z => nI i + z) (by decide))) (by decide) rfl (fun ls hl => ?_)
      refine lv_goto (tgt := 22) E.hx E.hb dL_setup_52 (by decide) ?_
      have el : x3 = (headL P ++ procL (i + 1)) := by
        rw [ex3, ex2, ex1]
        show _ = headL P ++ (((procL i ++ sLst 16) ++ [112 + i]) ++ [59])
        simp only [List.append_assoc]
      rw [el] at hS hW
      exact W.widen (by omega) (by omega) (ih (i + 1) v cap ml f _ _ _ hS hW hl (by omega))
  refine lv_dup E.hx E.hb dL_setup_3 rfl ?_
  refine k_lstr hE E hW rfl 0 (15 : Int32) (by decide) (by decide) rfl dL_setup_4 ?_
  have hW : WD k A s.heap ([] ++ [(a, .inr (1, [.null, .int 0, .int 0, .int 0]))]) H _ := hW
  refine k_finv (X := []) (k_rI (X := []) (As := [.ref (strAd k (15 : Int32))]) (rest := [.ref a]) (c_sbinit l k hE a (15 : Int32) (by unfold sIn; decide) (by rw [s0]; decide)) E il_L_45 dL_setup_6 hW hA hl rfl ⟨by decide, by decide⟩ ⟨by decide, by decide⟩ (Nat.le_of_ble_eq_true rfl)) E hW hA (fun u H locs hp hW => ?_)
  obtain ⟨v, cap, ml, f, h8, hS⟩ := hp
  subst h8
  have hW : WD k A s.heap (wSB k a v cap ml ((sLst (15 : Int32))).length f) H locs := hW
  have bz0 : (sLst (15 : Int32)).length ≤ 6 := by rw [s0]; exact Nat.le_refl _
  refine k_iload_n E hl 1 dL_setup_9 rfl ?_
  refine k_finw (X := []) (k_rV (X := []) (As := [.int (nI P)]) (rest := []) (c_apI l k hE hG a (sLst (15 : Int32)) _ ⟨v, cap, ml, f, rfl, hS⟩ P hP (by omega)) E (vl_L_48.cw E ⟨by decide, by decide⟩) dL_setup_10 (va_recv E.hK hW.1 (q := (RJ4, TJ4, 4)) (ci := 1) rfl (q0 := 0) rfl) hW hA hl rfl ⟨by show _ ≤ 100; omega, by show _ ≤ 90000; omega⟩ (Nat.le_of_ble_eq_true rfl)) E hW hA (fun r u H locs hp hW => ?_)
  obtain ⟨h9, v, cap, ml, f, h8, hS⟩ := hp
  subst h9
  subst h8
  obtain ⟨z1, ez1, bz1⟩ : ∃ z, z = (sLst (15 : Int32)) ++ sx_num P ∧ z.length ≤ 16 := ⟨_, rfl, by rw [List.length_append, sx_numlen]; omega⟩
  have hW : WD k A s.heap (wSB k a v cap ml ((sLst (15 : Int32)) ++ sx_num P).length f) H locs := hW
  rw [← ez1] at hS hW
  refine lv_bipush (v := (59 : Int32)) E.hx E.hb dL_setup_13 bp_59 ?_
  refine k_finw (X := []) (k_rV (X := []) (As := [.int (nI 59)]) (rest := []) (c_apC l k hE a z1 _ ⟨v, cap, ml, f, rfl, hS⟩ 59 (by omega) (by omega)) E (vl_L_52.cw E ⟨by decide, by decide⟩) dL_setup_15 (va_recv E.hK hW.1 (q := (RJ4, TJ4, 4)) (ci := 1) rfl (q0 := 0) rfl) hW hA hl rfl ⟨by show _ ≤ 100; omega, by show _ ≤ 90000; omega⟩ (Nat.le_of_ble_eq_true rfl)) E hW hA (fun r u H locs hp hW => ?_)
  obtain ⟨h9, v, cap, ml, f, h8, hS⟩ := hp
  subst h9
  subst h8
  obtain ⟨z2, ez2, bz2⟩ : ∃ z, z = z1 ++ [59] ∧ z.length ≤ 17 := ⟨_, rfl, by rw [List.length_append, List.length_singleton]; omega⟩
  have hW : WD k A s.heap (wSB k a v cap ml (z1 ++ [59]).length f) H locs := hW
  rw [← ez2] at hS hW
  refine lv_astore_n (lv' := [(3, .ref a), (0, .ref b_s), (1, .int (nI P)), (2, .int (nI q))]) E.hx E.hb dL_setup_18 rfl hl (by decide) rfl (fun ls hl => ?_)
  refine lv_iconst (v := (0 : Int32)) E.hx E.hb dL_setup_19 ic_0 ?_
  refine k_istore (lv' := [(4, .int (0 : Int32)), (3, .ref a), (0, .ref b_s), (1, .int (nI P)), (2, .int (nI q))]) E rfl hl dL_setup_20 (by decide) rfl (fun ls hl => ?_)
  have el0 : z2 = headL P ++ procL 0 := by rw [ez2, ez1]; exact (List.append_nil _).symm
  rw [el0] at hS hW
  exact W.widen (by decide) (by decide) (LOOP q 0 v cap ml f _ _ _ hS hW hl (by omega))

