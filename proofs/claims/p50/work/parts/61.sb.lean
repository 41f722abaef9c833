def SBo (t : Nat → Nat) (cnt cap : Nat) (f : Nat → Int32) : Prop := cnt ≤ cap ∧ cap ≤ 602 ∧ sb_Lat t cnt f ∧ sb_Fit f
theorem sx_max {a b : Nat} (ha : a < 2 ^ 31) (hb : b < 2 ^ 31) : (if nI a < nI b then nI b else nI a) = nI (max a b) := by
  rcases Nat.lt_or_ge a b with h | h
  · rw [if_pos (nI_lt h hb), Nat.max_eq_right (Nat.le_of_lt h)]
  · rw [if_neg (nI_nlt h ha), Nat.max_eq_left h]
theorem sx_le0 {a b : Nat} (ha : a < 2 ^ 30) (hb : b < 2 ^ 30) : (nI a - nI b ≤ 0) ↔ a ≤ b := by
  rw [Int32.le_iff_toInt_le, pk_sub_toInt ha hb, Int32.toInt_zero]
  omega
theorem sx_inj {a b : Nat} (ha : a < 2 ^ 31) (hb : b < 2 ^ 31) (h : nI a = nI b) : a = b := (nI_eq ha hb).mp h
theorem sx_narB (c : Nat) : vp_nar .byte (sb_b c) = sb_b c := pk_vb _
def sTx (x : Int32) (j : Nat) : Nat := ((sBytL.getD x.toNatClampNeg []).getD j 0).toNatClampNeg
def sOk (z : Int32) : Bool := decide (z.toNatClampNeg < 256) && (z == sb_b z.toNatClampNeg)
theorem sBytL_ok : ∀ L ∈ sBytL, ∀ z ∈ L, sOk z = true := by decide +kernel
theorem sx_byt (i j : Nat) : ((sBytL.getD i []).getD j 0).toNatClampNeg < 256 ∧ (sBytL.getD i []).getD j 0 = sb_b ((sBytL.getD i []).getD j 0).toNatClampNeg := by
  have h0 : sOk 0 = true := by decide +kernel
  have key : sOk ((sBytL.getD i []).getD j 0) = true := by
    rcases Nat.lt_or_ge i sBytL.length with hi | hi
    · rw [List.getD_eq_getElem?_getD (l := sBytL), List.getElem?_eq_getElem hi, Option.getD_some]
      rcases Nat.lt_or_ge j (sBytL[i]).length with hj | hj
      · rw [List.getD_eq_getElem?_getD, List.getElem?_eq_getElem hj, Option.getD_some]
        exact sBytL_ok _ (List.getElem_mem hi) _ (List.getElem_mem hj)
      · rw [List.getD_eq_getElem?_getD, List.getElem?_eq_none hj, Option.getD_none]
        exact h0
    · rw [List.getD_eq_getElem?_getD (l := sBytL), List.getElem?_eq_none hi, Option.getD_none]
      exact h0
  unfold sOk at key
  rw [Bool.and_eq_true, decide_eq_true_iff, beq_iff_eq] at key
  exact key
theorem sByt_fit (i j : Nat) : fits .byte (.int ((sBytL.getD i []).getD j 0)) = true := by
  rw [(sx_byt i j).2]
  exact sb_fitB _
theorem sbo_put {t : Nat → Nat} {cnt cap cap1 ch : Nat} {f f1 : Nat → Int32} (hS : SBo t cnt cap f) (g1 : cnt + 1 ≤ cap1) (g3 : cap1 ≤ 602) (g4 : sb_Fit f1) (g5 : ∀ j, j < cap → f1 j = f j) (hch : ch < 256) : SBo (sb_cat t cnt (fun _ => ch)) (cnt + 1) cap1 (upd f1 cnt (sb_b ch)) := by
  refine ⟨g1, g3, sb_latPut hS.2.2.1 (fun j hj => ?_) (fun i hi => ?_), sb_fitU g4 (sb_fitB ch)⟩
  · rw [pk_un (by omega)]
    exact g5 j (Nat.lt_of_lt_of_le hj hS.1)
  · obtain rfl : i = 0 := by omega
    exact ⟨hch, pk_us⟩
theorem sbo_str {t : Nat → Nat} {cnt cap cap1 : Nat} {f f1 : Nat → Int32} (hS : SBo t cnt cap f) {w : Nat} (g1 : cnt + w ≤ cap1) (g3 : cap1 ≤ 602) (g4 : sb_Fit f1) (g5 : ∀ j, j < cap → f1 j = f j) (x : Int32) : SBo (sb_cat t cnt (sTx x)) (cnt + w) cap1 (va_cpy (fun j => (sBytL.getD x.toNatClampNeg []).getD j 0) f1 0 cnt w) := by
  refine ⟨g1, g3, sb_latPut hS.2.2.1 (fun j hj => ?_) (fun i hi => ?_), sb_fitC (fun j => sByt_fit _ _) g4⟩
  · rw [pk_cpy_out (by omega)]
    exact g5 j (Nat.lt_of_lt_of_le hj hS.1)
  · rw [pk_cpy_in (by omega) (by omega), show 0 + (cnt + i - cnt) = i by omega]
    exact sx_byt _ _
theorem pk_charI {q : Nat} (hq : q < 256) : ((nI q).toUInt32 % 65536).toInt32 = nI q := (sb_byte q hq).2.1
def wSB (k : KT) (a v cap : Nat) (ml : Int32) (cnt : Nat) (f : Nat → Int32) : va_W := [(a, .inr (1, [.ref v, .int 0, .int ml, .int (nI cnt)])), (v, .inl (k.2.1.1 2, cap, .inl f))]
def wStr (k : KT) (a v n : Nat) (f : Nat → Int32) : va_W := [(a, .inr (0, [.ref v, .int 0, .int 0, .int 0])), (v, .inl (k.2.1.1 2, n, .inl f))]
theorem tbl_laysJ4 : ∀ w ∈ wsJ40, tbOK w = true := by decide +kernel
theorem tbl_laysJ0 : ∀ w ∈ wsJ00, tbOK w = true := by decide +kernel
theorem tm_933 : (Jvm.Cond.methodLink "jdk/internal/util/ArraysSupport" (194 : Nat) ({ cls := "java/lang/Math", name := "max", desc := "(II)I" } : Jvm.MethodName)) ∈ lw_tbl := List.mem_of_getElem? (i := 933) (by decide +kernel)
theorem tm_934 : (Jvm.Cond.constant "jdk/internal/util/ArraysSupport" (200 : Nat) (2147483639 : Int32)) ∈ lw_tbl := List.mem_of_getElem? (i := 934) (by decide +kernel)
theorem tm_1004 : (Jvm.Cond.fieldLink "java/lang/AbstractStringBuilder" (15 : Nat) "java/lang/AbstractStringBuilder" "value" "[B") ∈ lw_tbl := List.mem_of_getElem? (i := 1004) (by decide +kernel)
theorem tm_1005 : (Jvm.Cond.fieldLink "java/lang/AbstractStringBuilder" (22 : Nat) "java/lang/AbstractStringBuilder" "coder" "B") ∈ lw_tbl := List.mem_of_getElem? (i := 1005) (by decide +kernel)
theorem tm_930 : (Jvm.Cond.methodLink "java/lang/AbstractStringBuilder" (114 : Nat) ({ cls := "jdk/internal/util/ArraysSupport", name := "newLength", desc := "(III)I" } : Jvm.MethodName)) ∈ lw_tbl := List.mem_of_getElem? (i := 930) (by decide +kernel)
theorem tm_931 : (Jvm.Cond.static ({ cls := "jdk/internal/util/ArraysSupport", name := "newLength", desc := "(III)I" } : Jvm.MethodName)) ∈ lw_tbl := List.mem_of_getElem? (i := 931) (by decide +kernel)
theorem tm_48 : (Jvm.Cond.initialized "jdk/internal/util/ArraysSupport") ∈ lw_tbl := List.mem_of_getElem? (i := 48) (by decide +kernel)
theorem tm_932 : (Jvm.Cond.code ({ cls := "jdk/internal/util/ArraysSupport", name := "newLength", desc := "(III)I" } : Jvm.MethodName) prog_37_method_27_code (4 : Nat) (Option.some Jvm.ClassFile.FieldType.int)) ∈ lw_tbl := List.mem_of_getElem? (i := 932) (by decide +kernel)
theorem tm_896 : (Jvm.Cond.constant "java/lang/AbstractStringBuilder" (39 : Nat) (2147483647 : Int32)) ∈ lw_tbl := List.mem_of_getElem? (i := 896) (by decide +kernel)
theorem tm_948 : (Jvm.Cond.methodLink "java/util/Arrays" (304 : Nat) ({ cls := "java/lang/Math", name := "min", desc := "(II)I" } : Jvm.MethodName)) ∈ lw_tbl := List.mem_of_getElem? (i := 948) (by decide +kernel)
theorem tm_949 : (Jvm.Cond.methodLink "java/util/Arrays" (150 : Nat) ({ cls := "java/lang/System", name := "arraycopy", desc := "(Ljava/lang/Object;ILjava/lang/Object;II)V" } : Jvm.MethodName)) ∈ lw_tbl := List.mem_of_getElem? (i := 949) (by decide +kernel)
theorem tm_926 : (Jvm.Cond.methodLink "java/lang/AbstractStringBuilder" (104 : Nat) ({ cls := "java/lang/AbstractStringBuilder", name := "newCapacity", desc := "(I)I" } : Jvm.MethodName)) ∈ lw_tbl := List.mem_of_getElem? (i := 926) (by decide +kernel)
theorem tm_928 : (Jvm.Cond.instanceMethod ({ cls := "java/lang/AbstractStringBuilder", name := "newCapacity", desc := "(I)I" } : Jvm.MethodName)) ∈ lw_tbl := List.mem_of_getElem? (i := 928) (by decide +kernel)
theorem tm_44 : (Jvm.Cond.initialized "java/lang/AbstractStringBuilder") ∈ lw_tbl := List.mem_of_getElem? (i := 44) (by decide +kernel)
theorem tm_929 : (Jvm.Cond.code ({ cls := "java/lang/AbstractStringBuilder", name := "newCapacity", desc := "(I)I" } : Jvm.MethodName) prog_13_method_10_code (6 : Nat) (Option.some Jvm.ClassFile.FieldType.int)) ∈ lw_tbl := List.mem_of_getElem? (i := 929) (by decide +kernel)
theorem tm_938 : (Jvm.Cond.methodLink "java/lang/AbstractStringBuilder" (108 : Nat) ({ cls := "java/util/Arrays", name := "copyOf", desc := "([BI)[B" } : Jvm.MethodName)) ∈ lw_tbl := List.mem_of_getElem? (i := 938) (by decide +kernel)
theorem tm_939 : (Jvm.Cond.static ({ cls := "java/util/Arrays", name := "copyOf", desc := "([BI)[B" } : Jvm.MethodName)) ∈ lw_tbl := List.mem_of_getElem? (i := 939) (by decide +kernel)
theorem tm_940 : (Jvm.Cond.code ({ cls := "java/util/Arrays", name := "copyOf", desc := "([BI)[B" } : Jvm.MethodName) prog_35_method_121_code (3 : Nat) (Option.some (Jvm.ClassFile.FieldType.array Jvm.ClassFile.FieldType.byte))) ∈ lw_tbl := List.mem_of_getElem? (i := 940) (by decide +kernel)
theorem tm_955 : (Jvm.Cond.fieldLink "java/lang/AbstractStringBuilder" (18 : Nat) "java/lang/String" "COMPACT_STRINGS" "Z") ∈ lw_tbl := List.mem_of_getElem? (i := 955) (by decide +kernel)
theorem tm_1007 : (Jvm.Cond.fieldLink "java/lang/AbstractStringBuilder" (79 : Nat) "java/lang/AbstractStringBuilder" "count" "I") ∈ lw_tbl := List.mem_of_getElem? (i := 1007) (by decide +kernel)
theorem tm_922 : (Jvm.Cond.methodLink "java/lang/AbstractStringBuilder" (100 : Nat) ({ cls := "java/lang/AbstractStringBuilder", name := "ensureCapacityInternal", desc := "(I)V" } : Jvm.MethodName)) ∈ lw_tbl := List.mem_of_getElem? (i := 922) (by decide +kernel)
theorem tm_924 : (Jvm.Cond.instanceMethod ({ cls := "java/lang/AbstractStringBuilder", name := "ensureCapacityInternal", desc := "(I)V" } : Jvm.MethodName)) ∈ lw_tbl := List.mem_of_getElem? (i := 924) (by decide +kernel)
theorem tm_925 : (Jvm.Cond.code ({ cls := "java/lang/AbstractStringBuilder", name := "ensureCapacityInternal", desc := "(I)V" } : Jvm.MethodName) prog_13_method_9_code (3 : Nat) (Option.none : Option Jvm.ClassFile.FieldType)) ∈ lw_tbl := List.mem_of_getElem? (i := 925) (by decide +kernel)
theorem tm_950 : (Jvm.Cond.methodLink "java/lang/AbstractStringBuilder" (83 : Nat) ({ cls := "java/lang/AbstractStringBuilder", name := "isLatin1", desc := "()Z" } : Jvm.MethodName)) ∈ lw_tbl := List.mem_of_getElem? (i := 950) (by decide +kernel)
theorem tm_951 : (Jvm.Cond.instanceMethod ({ cls := "java/lang/AbstractStringBuilder", name := "isLatin1", desc := "()Z" } : Jvm.MethodName)) ∈ lw_tbl := List.mem_of_getElem? (i := 951) (by decide +kernel)
theorem tm_953 : (Jvm.Cond.selects "java/lang/StringBuilder" ({ cls := "java/lang/AbstractStringBuilder", name := "isLatin1", desc := "()Z" } : Jvm.MethodName) ({ cls := "java/lang/AbstractStringBuilder", name := "isLatin1", desc := "()Z" } : Jvm.MethodName)) ∈ lw_tbl := List.mem_of_getElem? (i := 953) (by decide +kernel)
theorem tm_954 : (Jvm.Cond.code ({ cls := "java/lang/AbstractStringBuilder", name := "isLatin1", desc := "()Z" } : Jvm.MethodName) prog_13_method_68_code (1 : Nat) (Option.some Jvm.ClassFile.FieldType.boolean)) ∈ lw_tbl := List.mem_of_getElem? (i := 954) (by decide +kernel)
theorem tm_1048 : (Jvm.Cond.methodLink "java/lang/AbstractStringBuilder" (191 : Nat) ({ cls := "java/lang/StringLatin1", name := "canEncode", desc := "(C)Z" } : Jvm.MethodName)) ∈ lw_tbl := List.mem_of_getElem? (i := 1048) (by decide +kernel)
theorem tm_1049 : (Jvm.Cond.static ({ cls := "java/lang/StringLatin1", name := "canEncode", desc := "(C)Z" } : Jvm.MethodName)) ∈ lw_tbl := List.mem_of_getElem? (i := 1049) (by decide +kernel)
theorem tm_1050 : (Jvm.Cond.code ({ cls := "java/lang/StringLatin1", name := "canEncode", desc := "(C)Z" } : Jvm.MethodName) prog_29_method_3_code (1 : Nat) (Option.some Jvm.ClassFile.FieldType.boolean)) ∈ lw_tbl := List.mem_of_getElem? (i := 1050) (by decide +kernel)
theorem tm_897 : (Jvm.Cond.methodLink "java/lang/AbstractStringBuilder" (40 : Nat) ({ cls := "java/lang/String", name := "coder", desc := "()B" } : Jvm.MethodName)) ∈ lw_tbl := List.mem_of_getElem? (i := 897) (by decide +kernel)
theorem tm_1002 : (Jvm.Cond.methodLink "java/lang/String" (212 : Nat) ({ cls := "java/lang/System", name := "arraycopy", desc := "(Ljava/lang/Object;ILjava/lang/Object;II)V" } : Jvm.MethodName)) ∈ lw_tbl := List.mem_of_getElem? (i := 1002) (by decide +kernel)
theorem tm_975 : (Jvm.Cond.methodLink "java/lang/AbstractStringBuilder" (397 : Nat) ({ cls := "java/lang/AbstractStringBuilder", name := "inflateIfNeededFor", desc := "(Ljava/lang/String;)V" } : Jvm.MethodName)) ∈ lw_tbl := List.mem_of_getElem? (i := 975) (by decide +kernel)
theorem tm_977 : (Jvm.Cond.instanceMethod ({ cls := "java/lang/AbstractStringBuilder", name := "inflateIfNeededFor", desc := "(Ljava/lang/String;)V" } : Jvm.MethodName)) ∈ lw_tbl := List.mem_of_getElem? (i := 977) (by decide +kernel)
theorem tm_978 : (Jvm.Cond.code ({ cls := "java/lang/AbstractStringBuilder", name := "inflateIfNeededFor", desc := "(Ljava/lang/String;)V" } : Jvm.MethodName) prog_13_method_71_code (2 : Nat) (Option.none : Option Jvm.ClassFile.FieldType)) ∈ lw_tbl := List.mem_of_getElem? (i := 978) (by decide +kernel)
theorem tm_998 : (Jvm.Cond.methodLink "java/lang/AbstractStringBuilder" (399 : Nat) ({ cls := "java/lang/String", name := "getBytes", desc := "([BIB)V" } : Jvm.MethodName)) ∈ lw_tbl := List.mem_of_getElem? (i := 998) (by decide +kernel)
theorem tm_999 : (Jvm.Cond.instanceMethod ({ cls := "java/lang/String", name := "getBytes", desc := "([BIB)V" } : Jvm.MethodName)) ∈ lw_tbl := List.mem_of_getElem? (i := 999) (by decide +kernel)
theorem tm_1000 : (Jvm.Cond.selects "java/lang/String" ({ cls := "java/lang/String", name := "getBytes", desc := "([BIB)V" } : Jvm.MethodName) ({ cls := "java/lang/String", name := "getBytes", desc := "([BIB)V" } : Jvm.MethodName)) ∈ lw_tbl := List.mem_of_getElem? (i := 1000) (by decide +kernel)
theorem tm_1001 : (Jvm.Cond.code ({ cls := "java/lang/String", name := "getBytes", desc := "([BIB)V" } : Jvm.MethodName) prog_27_method_147_code (4 : Nat) (Option.none : Option Jvm.ClassFile.FieldType)) ∈ lw_tbl := List.mem_of_getElem? (i := 1001) (by decide +kernel)
theorem tm_894 : (Jvm.Cond.methodLink "java/lang/AbstractStringBuilder" (32 : Nat) ({ cls := "java/lang/String", name := "length", desc := "()I" } : Jvm.MethodName)) ∈ lw_tbl := List.mem_of_getElem? (i := 894) (by decide +kernel)
theorem tm_971 : (Jvm.Cond.methodLink "java/lang/AbstractStringBuilder" (208 : Nat) ({ cls := "java/lang/AbstractStringBuilder", name := "putStringAt", desc := "(ILjava/lang/String;)V" } : Jvm.MethodName)) ∈ lw_tbl := List.mem_of_getElem? (i := 971) (by decide +kernel)
theorem tm_973 : (Jvm.Cond.instanceMethod ({ cls := "java/lang/AbstractStringBuilder", name := "putStringAt", desc := "(ILjava/lang/String;)V" } : Jvm.MethodName)) ∈ lw_tbl := List.mem_of_getElem? (i := 973) (by decide +kernel)
theorem tm_974 : (Jvm.Cond.code ({ cls := "java/lang/AbstractStringBuilder", name := "putStringAt", desc := "(ILjava/lang/String;)V" } : Jvm.MethodName) prog_13_method_73_code (3 : Nat) (Option.none : Option Jvm.ClassFile.FieldType)) ∈ lw_tbl := List.mem_of_getElem? (i := 974) (by decide +kernel)
theorem tm_1029 : (Jvm.Cond.fieldLink "java/lang/Integer" (83 : Nat) "java/lang/Integer" "DigitOnes" "[B") ∈ lw_tbl := List.mem_of_getElem? (i := 1029) (by decide +kernel)
theorem tm_1031 : (Jvm.Cond.fieldLink "java/lang/Integer" (87 : Nat) "java/lang/Integer" "DigitTens" "[B") ∈ lw_tbl := List.mem_of_getElem? (i := 1031) (by decide +kernel)
theorem tm_1023 : (Jvm.Cond.methodLink "java/lang/AbstractStringBuilder" (245 : Nat) ({ cls := "java/lang/Integer", name := "stringSize", desc := "(I)I" } : Jvm.MethodName)) ∈ lw_tbl := List.mem_of_getElem? (i := 1023) (by decide +kernel)
theorem tm_1024 : (Jvm.Cond.static ({ cls := "java/lang/Integer", name := "stringSize", desc := "(I)I" } : Jvm.MethodName)) ∈ lw_tbl := List.mem_of_getElem? (i := 1024) (by decide +kernel)
theorem tm_53 : (Jvm.Cond.initialized "java/lang/Integer") ∈ lw_tbl := List.mem_of_getElem? (i := 53) (by decide +kernel)
theorem tm_1025 : (Jvm.Cond.code ({ cls := "java/lang/Integer", name := "stringSize", desc := "(I)I" } : Jvm.MethodName) prog_23_method_13_code (4 : Nat) (Option.some Jvm.ClassFile.FieldType.int)) ∈ lw_tbl := List.mem_of_getElem? (i := 1025) (by decide +kernel)
theorem tm_1026 : (Jvm.Cond.methodLink "java/lang/AbstractStringBuilder" (248 : Nat) ({ cls := "java/lang/Integer", name := "getChars", desc := "(II[B)I" } : Jvm.MethodName)) ∈ lw_tbl := List.mem_of_getElem? (i := 1026) (by decide +kernel)
theorem tm_1027 : (Jvm.Cond.static ({ cls := "java/lang/Integer", name := "getChars", desc := "(II[B)I" } : Jvm.MethodName)) ∈ lw_tbl := List.mem_of_getElem? (i := 1027) (by decide +kernel)
theorem tm_1028 : (Jvm.Cond.code ({ cls := "java/lang/Integer", name := "getChars", desc := "(II[B)I" } : Jvm.MethodName) prog_23_method_12_code (7 : Nat) (Option.some Jvm.ClassFile.FieldType.int)) ∈ lw_tbl := List.mem_of_getElem? (i := 1028) (by decide +kernel)
theorem tm_911 : (Jvm.Cond.methodLink "java/lang/StringBuilder" (23 : Nat) ({ cls := "java/lang/StringBuilder", name := "append", desc := "(Ljava/lang/String;)Ljava/lang/StringBuilder;" } : Jvm.MethodName)) ∈ lw_tbl := List.mem_of_getElem? (i := 911) (by decide +kernel)
theorem tm_912 : (Jvm.Cond.instanceMethod ({ cls := "java/lang/StringBuilder", name := "append", desc := "(Ljava/lang/String;)Ljava/lang/StringBuilder;" } : Jvm.MethodName)) ∈ lw_tbl := List.mem_of_getElem? (i := 912) (by decide +kernel)
theorem tm_913 : (Jvm.Cond.selects "java/lang/StringBuilder" ({ cls := "java/lang/StringBuilder", name := "append", desc := "(Ljava/lang/String;)Ljava/lang/StringBuilder;" } : Jvm.MethodName) ({ cls := "java/lang/StringBuilder", name := "append", desc := "(Ljava/lang/String;)Ljava/lang/StringBuilder;" } : Jvm.MethodName)) ∈ lw_tbl := List.mem_of_getElem? (i := 913) (by decide +kernel)
theorem tm_45 : (Jvm.Cond.initialized "java/lang/StringBuilder") ∈ lw_tbl := List.mem_of_getElem? (i := 45) (by decide +kernel)
theorem tm_914 : (Jvm.Cond.code ({ cls := "java/lang/StringBuilder", name := "append", desc := "(Ljava/lang/String;)Ljava/lang/StringBuilder;" } : Jvm.MethodName) prog_28_method_7_code (2 : Nat) (Option.some (Jvm.ClassFile.FieldType.object "java/lang/StringBuilder"))) ∈ lw_tbl := List.mem_of_getElem? (i := 914) (by decide +kernel)
theorem tm_893 : (Jvm.Cond.methodLink "java/lang/AbstractStringBuilder" (3 : Nat) ({ cls := "java/lang/Object", name := "<init>", desc := "()V" } : Jvm.MethodName)) ∈ lw_tbl := List.mem_of_getElem? (i := 893) (by decide +kernel)
theorem tm_895 : (Jvm.Cond.constant "java/lang/AbstractStringBuilder" (38 : Nat) (2147483631 : Int32)) ∈ lw_tbl := List.mem_of_getElem? (i := 895) (by decide +kernel)
theorem tm_917 : (Jvm.Cond.code ({ cls := "java/lang/AbstractStringBuilder", name := "append", desc := "(Ljava/lang/String;)Ljava/lang/AbstractStringBuilder;" } : Jvm.MethodName) prog_13_method_22_code (3 : Nat) (Option.some (Jvm.ClassFile.FieldType.object "java/lang/AbstractStringBuilder"))) ∈ lw_tbl := List.mem_of_getElem? (i := 917) (by decide +kernel)
theorem tm_890 : (Jvm.Cond.methodLink "java/lang/StringBuilder" (7 : Nat) ({ cls := "java/lang/AbstractStringBuilder", name := "<init>", desc := "(Ljava/lang/String;)V" } : Jvm.MethodName)) ∈ lw_tbl := List.mem_of_getElem? (i := 890) (by decide +kernel)
theorem tm_891 : (Jvm.Cond.instanceMethod ({ cls := "java/lang/AbstractStringBuilder", name := "<init>", desc := "(Ljava/lang/String;)V" } : Jvm.MethodName)) ∈ lw_tbl := List.mem_of_getElem? (i := 891) (by decide +kernel)
theorem tm_892 : (Jvm.Cond.code ({ cls := "java/lang/AbstractStringBuilder", name := "<init>", desc := "(Ljava/lang/String;)V" } : Jvm.MethodName) prog_13_method_3_code (5 : Nat) (Option.none : Option Jvm.ClassFile.FieldType)) ∈ lw_tbl := List.mem_of_getElem? (i := 892) (by decide +kernel)
theorem tm_1097 : (Jvm.Cond.methodLink "java/util/Arrays" (343 : Nat) ({ cls := "java/util/Arrays", name := "checkLength", desc := "(II)V" } : Jvm.MethodName)) ∈ lw_tbl := List.mem_of_getElem? (i := 1097) (by decide +kernel)
theorem tm_1098 : (Jvm.Cond.static ({ cls := "java/util/Arrays", name := "checkLength", desc := "(II)V" } : Jvm.MethodName)) ∈ lw_tbl := List.mem_of_getElem? (i := 1098) (by decide +kernel)
theorem tm_1099 : (Jvm.Cond.code ({ cls := "java/util/Arrays", name := "checkLength", desc := "(II)V" } : Jvm.MethodName) prog_35_method_131_code (2 : Nat) (Option.none : Option Jvm.ClassFile.FieldType)) ∈ lw_tbl := List.mem_of_getElem? (i := 1099) (by decide +kernel)
theorem tm_941 : (Jvm.Cond.methodLink "java/util/Arrays" (310 : Nat) ({ cls := "[B", name := "clone", desc := "()Ljava/lang/Object;" } : Jvm.MethodName)) ∈ lw_tbl := List.mem_of_getElem? (i := 941) (by decide +kernel)
theorem tm_942 : (Jvm.Cond.sameMethod "[B" "java/lang/Object" "clone" "()Ljava/lang/Object;") ∈ lw_tbl := List.mem_of_getElem? (i := 942) (by decide +kernel)
theorem tm_943 : (Jvm.Cond.native ({ cls := "java/lang/Object", name := "clone", desc := "()Ljava/lang/Object;" } : Jvm.MethodName)) ∈ lw_tbl := List.mem_of_getElem? (i := 943) (by decide +kernel)
theorem tm_944 : (Jvm.Cond.instanceMethod ({ cls := "java/lang/Object", name := "clone", desc := "()Ljava/lang/Object;" } : Jvm.MethodName)) ∈ lw_tbl := List.mem_of_getElem? (i := 944) (by decide +kernel)
theorem tm_945 : (Jvm.Cond.selects "[B" ({ cls := "[B", name := "clone", desc := "()Ljava/lang/Object;" } : Jvm.MethodName) ({ cls := "java/lang/Object", name := "clone", desc := "()Ljava/lang/Object;" } : Jvm.MethodName)) ∈ lw_tbl := List.mem_of_getElem? (i := 945) (by decide +kernel)
theorem tm_946 : (Jvm.Cond.castable "[B" "java/lang/Cloneable") ∈ lw_tbl := List.mem_of_getElem? (i := 946) (by decide +kernel)
theorem tm_947 : (Jvm.Cond.classLink "java/util/Arrays" (311 : Nat) "[B") ∈ lw_tbl := List.mem_of_getElem? (i := 947) (by decide +kernel)
theorem tm_1094 : (Jvm.Cond.methodLink "java/util/Arrays" (339 : Nat) ({ cls := "java/util/Arrays", name := "copyOfRangeByte", desc := "([BII)[B" } : Jvm.MethodName)) ∈ lw_tbl := List.mem_of_getElem? (i := 1094) (by decide +kernel)
theorem tm_1095 : (Jvm.Cond.static ({ cls := "java/util/Arrays", name := "copyOfRangeByte", desc := "([BII)[B" } : Jvm.MethodName)) ∈ lw_tbl := List.mem_of_getElem? (i := 1095) (by decide +kernel)
theorem tm_1096 : (Jvm.Cond.code ({ cls := "java/util/Arrays", name := "copyOfRangeByte", desc := "([BII)[B" } : Jvm.MethodName) prog_35_method_133_code (5 : Nat) (Option.some (Jvm.ClassFile.FieldType.array Jvm.ClassFile.FieldType.byte))) ∈ lw_tbl := List.mem_of_getElem? (i := 1096) (by decide +kernel)
theorem tm_1076 : (Jvm.Cond.methodLink "java/lang/String" (1 : Nat) ({ cls := "java/lang/Object", name := "<init>", desc := "()V" } : Jvm.MethodName)) ∈ lw_tbl := List.mem_of_getElem? (i := 1076) (by decide +kernel)
theorem tm_1077 : (Jvm.Cond.methodLink "java/lang/String" (552 : Nat) ({ cls := "java/lang/AbstractStringBuilder", name := "getValue", desc := "()[B" } : Jvm.MethodName)) ∈ lw_tbl := List.mem_of_getElem? (i := 1077) (by decide +kernel)
theorem tm_1078 : (Jvm.Cond.instanceMethod ({ cls := "java/lang/AbstractStringBuilder", name := "getValue", desc := "()[B" } : Jvm.MethodName)) ∈ lw_tbl := List.mem_of_getElem? (i := 1078) (by decide +kernel)
theorem tm_1080 : (Jvm.Cond.selects "java/lang/StringBuilder" ({ cls := "java/lang/AbstractStringBuilder", name := "getValue", desc := "()[B" } : Jvm.MethodName) ({ cls := "java/lang/AbstractStringBuilder", name := "getValue", desc := "()[B" } : Jvm.MethodName)) ∈ lw_tbl := List.mem_of_getElem? (i := 1080) (by decide +kernel)
theorem tm_1081 : (Jvm.Cond.code ({ cls := "java/lang/AbstractStringBuilder", name := "getValue", desc := "()[B" } : Jvm.MethodName) prog_13_method_64_code (1 : Nat) (Option.some (Jvm.ClassFile.FieldType.array Jvm.ClassFile.FieldType.byte))) ∈ lw_tbl := List.mem_of_getElem? (i := 1081) (by decide +kernel)
theorem tm_1089 : (Jvm.Cond.code ({ cls := "java/lang/AbstractStringBuilder", name := "length", desc := "()I" } : Jvm.MethodName) prog_13_method_6_code (1 : Nat) (Option.some Jvm.ClassFile.FieldType.int)) ∈ lw_tbl := List.mem_of_getElem? (i := 1089) (by decide +kernel)
theorem tm_1090 : (Jvm.Cond.methodLink "java/lang/String" (1047 : Nat) ({ cls := "java/lang/AbstractStringBuilder", name := "isLatin1", desc := "()Z" } : Jvm.MethodName)) ∈ lw_tbl := List.mem_of_getElem? (i := 1090) (by decide +kernel)
theorem tm_1091 : (Jvm.Cond.methodLink "java/lang/String" (54 : Nat) ({ cls := "java/util/Arrays", name := "copyOfRange", desc := "([BII)[B" } : Jvm.MethodName)) ∈ lw_tbl := List.mem_of_getElem? (i := 1091) (by decide +kernel)
theorem tm_1092 : (Jvm.Cond.static ({ cls := "java/util/Arrays", name := "copyOfRange", desc := "([BII)[B" } : Jvm.MethodName)) ∈ lw_tbl := List.mem_of_getElem? (i := 1092) (by decide +kernel)
theorem tm_1093 : (Jvm.Cond.code ({ cls := "java/util/Arrays", name := "copyOfRange", desc := "([BII)[B" } : Jvm.MethodName) prog_35_method_132_code (3 : Nat) (Option.some (Jvm.ClassFile.FieldType.array Jvm.ClassFile.FieldType.byte))) ∈ lw_tbl := List.mem_of_getElem? (i := 1093) (by decide +kernel)
theorem tm_1073 : (Jvm.Cond.methodLink "java/lang/String" (489 : Nat) ({ cls := "java/lang/String", name := "<init>", desc := "(Ljava/lang/AbstractStringBuilder;Ljava/lang/Void;)V" } : Jvm.MethodName)) ∈ lw_tbl := List.mem_of_getElem? (i := 1073) (by decide +kernel)
theorem tm_1074 : (Jvm.Cond.instanceMethod ({ cls := "java/lang/String", name := "<init>", desc := "(Ljava/lang/AbstractStringBuilder;Ljava/lang/Void;)V" } : Jvm.MethodName)) ∈ lw_tbl := List.mem_of_getElem? (i := 1074) (by decide +kernel)
theorem tm_1075 : (Jvm.Cond.code ({ cls := "java/lang/String", name := "<init>", desc := "(Ljava/lang/AbstractStringBuilder;Ljava/lang/Void;)V" } : Jvm.MethodName) prog_27_method_150_code (5 : Nat) (Option.none : Option Jvm.ClassFile.FieldType)) ∈ lw_tbl := List.mem_of_getElem? (i := 1075) (by decide +kernel)
theorem tm_1068 : (Jvm.Cond.classLink "java/lang/StringBuilder" (18 : Nat) "java/lang/String") ∈ lw_tbl := List.mem_of_getElem? (i := 1068) (by decide +kernel)
theorem tm_1069 : (Jvm.Cond.instantiable "java/lang/String" (4 : Nat)) ∈ lw_tbl := List.mem_of_getElem? (i := 1069) (by decide +kernel)
theorem tm_1070 : (Jvm.Cond.methodLink "java/lang/StringBuilder" (137 : Nat) ({ cls := "java/lang/String", name := "<init>", desc := "(Ljava/lang/StringBuilder;)V" } : Jvm.MethodName)) ∈ lw_tbl := List.mem_of_getElem? (i := 1070) (by decide +kernel)
theorem tm_1071 : (Jvm.Cond.instanceMethod ({ cls := "java/lang/String", name := "<init>", desc := "(Ljava/lang/StringBuilder;)V" } : Jvm.MethodName)) ∈ lw_tbl := List.mem_of_getElem? (i := 1071) (by decide +kernel)
theorem tm_1072 : (Jvm.Cond.code ({ cls := "java/lang/String", name := "<init>", desc := "(Ljava/lang/StringBuilder;)V" } : Jvm.MethodName) prog_27_method_53_code (2 : Nat) (Option.none : Option Jvm.ClassFile.FieldType)) ∈ lw_tbl := List.mem_of_getElem? (i := 1072) (by decide +kernel)
theorem bp_m10 : (Int8.ofInt (-10)).toInt32 = (-10 : Int32) := by decide
theorem bp_m100 : (Int8.ofInt (-100)).toInt32 = (-100 : Int32) := by decide
theorem bp_m9 : (Int8.ofInt (-9)).toInt32 = (-9 : Int32) := by decide
theorem bp_45 : (Int8.ofInt (45)).toInt32 = (45 : Int32) := by decide
theorem gf_J5_15 {p : Program} {l : Launch} {e : Env} {R : Room} {s : State} {m : MethodId} {args : Array Value} {below : List Frame} {meth : Method} {c : Code} {H : Heap} {locs : List Loc} {cells slots : Nat} {Q : State → Prop} {cc : ByteArray} {pc nL : Nat} {ls : Array Slot} {rest : List Value} {k : KT} {A : Nat → Prop} {ws : va_W} {H0 : Heap} {a : Nat} (E : E0 p s m c cc nL RJ5 k A) (hW : WD k A H0 ws H locs) (q0 : Nat) {fs : List Value} (he : ws[q0]? = some (a, .inr (1, fs))) {v : Value} (hv : fs[0]? = some v) (hdg : decode cc pc = .ok (.getfield 15, 3)) (q : W p l e R s m args below meth c H locs cells slots Q (F0 m (pc + 3) ls (v :: rest))) : W p l e R s m args below meth c H locs cells slots Q (F0 m pc ls (.ref a :: rest)) := va_get (C := RJ4) (T := TJ4) (N := 4) (ci := 1) E.hx E.hb (Ts := wsJ40) (fun w hw => E.w (inJ4 w hw) (tbl_laysJ4 w hw)) (fun _ h => h) E.ho E.hK hW.1 q0 he rfl 0 (by decide) (E.w tm_1004 rfl) (fun _ h => h) hv hdg q
theorem gf_J5_22 {p : Program} {l : Launch} {e : Env} {R : Room} {s : State} {m : MethodId} {args : Array Value} {below : List Frame} {meth : Method} {c : Code} {H : Heap} {locs : List Loc} {cells slots : Nat} {Q : State → Prop} {cc : ByteArray} {pc nL : Nat} {ls : Array Slot} {rest : List Value} {k : KT} {A : Nat → Prop} {ws : va_W} {H0 : Heap} {a : Nat} (E : E0 p s m c cc nL RJ5 k A) (hW : WD k A H0 ws H locs) (q0 : Nat) {fs : List Value} (he : ws[q0]? = some (a, .inr (1, fs))) {v : Value} (hv : fs[1]? = some v) (hdg : decode cc pc = .ok (.getfield 22, 3)) (q : W p l e R s m args below meth c H locs cells slots Q (F0 m (pc + 3) ls (v :: rest))) : W p l e R s m args below meth c H locs cells slots Q (F0 m pc ls (.ref a :: rest)) := va_get (C := RJ4) (T := TJ4) (N := 4) (ci := 1) E.hx E.hb (Ts := wsJ40) (fun w hw => E.w (inJ4 w hw) (tbl_laysJ4 w hw)) (fun _ h => h) E.ho E.hK hW.1 q0 he rfl 1 (by decide) (E.w tm_1005 rfl) (fun _ h => h) hv hdg q
theorem pf_J5_15 {p : Program} {l : Launch} {e : Env} {R : Room} {s : State} {m : MethodId} {args : Array Value} {below : List Frame} {meth : Method} {c : Code} {H : Heap} {locs : List Loc} {cells slots : Nat} {Q : State → Prop} {cc : ByteArray} {pc nL : Nat} {ls : Array Slot} {rest : List Value} {k : KT} {A : Nat → Prop} {ws ws2 : va_W} {H0 : Heap} {a : Nat} (E : E0 p s m c cc nL RJ5 k A) (hW : WD k A H0 ws H locs) (q0 : Nat) {fs : List Value} (he : ws[q0]? = some (a, .inr (1, fs))) {v : Value} (hn : narrow (tyJ4 0) v = v) (hfit : fits (tyJ4 0) v = true) (hl : 0 < fs.length) (hdg : decode cc pc = .ok (.putfield 15, 3)) (hws : ws.set q0 (a, .inr (1, fs.set 0 v)) = ws2) (q : ∀ (H1 : Heap) (locs1 : List Loc), WD k A H0 ws2 H1 locs1 → W p l e R s m args below meth c H1 locs1 cells slots Q (F0 m (pc + 3) ls rest)) : W p l e R s m args below meth c H locs cells slots Q (F0 m pc ls (v :: .ref a :: rest)) := by
  subst hws
  exact va_put (C := RJ4) (T := TJ4) (N := 4) (ci := 1) (ty := tyJ4 0) E.hx E.hb (Ts := wsJ40) (fun w hw => E.w (inJ4 w hw) (tbl_laysJ4 w hw)) (fun _ h => h) tyJ4 tyJ4_ok nmJ4 E.ho E.hK hW.1 hW.2.1 hW.2.2 q0 he rfl 0 (by decide) (E.w tm_1004 rfl) (fun _ h => h) rfl (tyJ4_ok 0 (by decide)) hn hfit hl hdg (fun H1 locs1 h1 h2 h3 => q H1 locs1 ⟨h1, h2, h3⟩)
theorem gf_J5_79 {p : Program} {l : Launch} {e : Env} {R : Room} {s : State} {m : MethodId} {args : Array Value} {below : List Frame} {meth : Method} {c : Code} {H : Heap} {locs : List Loc} {cells slots : Nat} {Q : State → Prop} {cc : ByteArray} {pc nL : Nat} {ls : Array Slot} {rest : List Value} {k : KT} {A : Nat → Prop} {ws : va_W} {H0 : Heap} {a : Nat} (E : E0 p s m c cc nL RJ5 k A) (hW : WD k A H0 ws H locs) (q0 : Nat) {fs : List Value} (he : ws[q0]? = some (a, .inr (1, fs))) {v : Value} (hv : fs[3]? = some v) (hdg : decode cc pc = .ok (.getfield 79, 3)) (q : W p l e R s m args below meth c H locs cells slots Q (F0 m (pc + 3) ls (v :: rest))) : W p l e R s m args below meth c H locs cells slots Q (F0 m pc ls (.ref a :: rest)) := va_get (C := RJ4) (T := TJ4) (N := 4) (ci := 1) E.hx E.hb (Ts := wsJ40) (fun w hw => E.w (inJ4 w hw) (tbl_laysJ4 w hw)) (fun _ h => h) E.ho E.hK hW.1 q0 he rfl 3 (by decide) (E.w tm_1007 rfl) (fun _ h => h) hv hdg q
theorem pf_J5_79 {p : Program} {l : Launch} {e : Env} {R : Room} {s : State} {m : MethodId} {args : Array Value} {below : List Frame} {meth : Method} {c : Code} {H : Heap} {locs : List Loc} {cells slots : Nat} {Q : State → Prop} {cc : ByteArray} {pc nL : Nat} {ls : Array Slot} {rest : List Value} {k : KT} {A : Nat → Prop} {ws ws2 : va_W} {H0 : Heap} {a : Nat} (E : E0 p s m c cc nL RJ5 k A) (hW : WD k A H0 ws H locs) (q0 : Nat) {fs : List Value} (he : ws[q0]? = some (a, .inr (1, fs))) {v : Value} (hn : narrow (tyJ4 3) v = v) (hfit : fits (tyJ4 3) v = true) (hl : 3 < fs.length) (hdg : decode cc pc = .ok (.putfield 79, 3)) (hws : ws.set q0 (a, .inr (1, fs.set 3 v)) = ws2) (q : ∀ (H1 : Heap) (locs1 : List Loc), WD k A H0 ws2 H1 locs1 → W p l e R s m args below meth c H1 locs1 cells slots Q (F0 m (pc + 3) ls rest)) : W p l e R s m args below meth c H locs cells slots Q (F0 m pc ls (v :: .ref a :: rest)) := by
  subst hws
  exact va_put (C := RJ4) (T := TJ4) (N := 4) (ci := 1) (ty := tyJ4 3) E.hx E.hb (Ts := wsJ40) (fun w hw => E.w (inJ4 w hw) (tbl_laysJ4 w hw)) (fun _ h => h) tyJ4 tyJ4_ok nmJ4 E.ho E.hK hW.1 hW.2.1 hW.2.2 q0 he rfl 3 (by decide) (E.w tm_1007 rfl) (fun _ h => h) rfl (tyJ4_ok 3 (by decide)) hn hfit hl hdg (fun H1 locs1 h1 h2 h3 => q H1 locs1 ⟨h1, h2, h3⟩)
theorem pf_J5_22 {p : Program} {l : Launch} {e : Env} {R : Room} {s : State} {m : MethodId} {args : Array Value} {below : List Frame} {meth : Method} {c : Code} {H : Heap} {locs : List Loc} {cells slots : Nat} {Q : State → Prop} {cc : ByteArray} {pc nL : Nat} {ls : Array Slot} {rest : List Value} {k : KT} {A : Nat → Prop} {ws ws2 : va_W} {H0 : Heap} {a : Nat} (E : E0 p s m c cc nL RJ5 k A) (hW : WD k A H0 ws H locs) (q0 : Nat) {fs : List Value} (he : ws[q0]? = some (a, .inr (1, fs))) {v : Value} (hn : narrow (tyJ4 1) v = v) (hfit : fits (tyJ4 1) v = true) (hl : 1 < fs.length) (hdg : decode cc pc = .ok (.putfield 22, 3)) (hws : ws.set q0 (a, .inr (1, fs.set 1 v)) = ws2) (q : ∀ (H1 : Heap) (locs1 : List Loc), WD k A H0 ws2 H1 locs1 → W p l e R s m args below meth c H1 locs1 cells slots Q (F0 m (pc + 3) ls rest)) : W p l e R s m args below meth c H locs cells slots Q (F0 m pc ls (v :: .ref a :: rest)) := by
  subst hws
  exact va_put (C := RJ4) (T := TJ4) (N := 4) (ci := 1) (ty := tyJ4 1) E.hx E.hb (Ts := wsJ40) (fun w hw => E.w (inJ4 w hw) (tbl_laysJ4 w hw)) (fun _ h => h) tyJ4 tyJ4_ok nmJ4 E.ho E.hK hW.1 hW.2.1 hW.2.2 q0 he rfl 1 (by decide) (E.w tm_1005 rfl) (fun _ h => h) rfl (tyJ4_ok 1 (by decide)) hn hfit hl hdg (fun H1 locs1 h1 h2 h3 => q H1 locs1 ⟨h1, h2, h3⟩)
theorem pf_J0_15 {p : Program} {l : Launch} {e : Env} {R : Room} {s : State} {m : MethodId} {args : Array Value} {below : List Frame} {meth : Method} {c : Code} {H : Heap} {locs : List Loc} {cells slots : Nat} {Q : State → Prop} {cc : ByteArray} {pc nL : Nat} {ls : Array Slot} {rest : List Value} {k : KT} {A : Nat → Prop} {ws ws2 : va_W} {H0 : Heap} {a : Nat} (E : E0 p s m c cc nL RJ0 k A) (hW : WD k A H0 ws H locs) (q0 : Nat) {fs : List Value} (he : ws[q0]? = some (a, .inr (0, fs))) {v : Value} (hin : meth.name = "<init>") (hn : narrow (tyJ0 1) v = v) (hfit : fits (tyJ0 1) v = true) (hl : 1 < fs.length) (hdg : decode cc pc = .ok (.putfield 15, 3)) (hws : ws.set q0 (a, .inr (0, fs.set 1 v)) = ws2) (q : ∀ (H1 : Heap) (locs1 : List Loc), WD k A H0 ws2 H1 locs1 → W p l e R s m args below meth c H1 locs1 cells slots Q (F0 m (pc + 3) ls rest)) : W p l e R s m args below meth c H locs cells slots Q (F0 m pc ls (v :: .ref a :: rest)) := by
  subst hws
  exact va_putF (C := RJ0) (T := TJ0) (N := 4) (ci := 0) (ty := tyJ0 1) E.hx E.hb (Ts := wsJ00) (fun w hw => E.w (inJ0 w hw) (tbl_laysJ0 w hw)) (fun _ h => h) tyJ0 tyJ0_ok nmJ0 E.ho E.hK hW.1 hW.2.1 hW.2.2 q0 he rfl 1 (by decide) (E.w tm_1111 rfl) (fun _ h => h) rfl hin rfl (tyJ0_ok 1 (by decide)) hn hfit hl hdg (fun H1 locs1 h1 h2 h3 => q H1 locs1 ⟨h1, h2, h3⟩)
theorem pf_J0_9 {p : Program} {l : Launch} {e : Env} {R : Room} {s : State} {m : MethodId} {args : Array Value} {below : List Frame} {meth : Method} {c : Code} {H : Heap} {locs : List Loc} {cells slots : Nat} {Q : State → Prop} {cc : ByteArray} {pc nL : Nat} {ls : Array Slot} {rest : List Value} {k : KT} {A : Nat → Prop} {ws ws2 : va_W} {H0 : Heap} {a : Nat} (E : E0 p s m c cc nL RJ0 k A) (hW : WD k A H0 ws H locs) (q0 : Nat) {fs : List Value} (he : ws[q0]? = some (a, .inr (0, fs))) {v : Value} (hin : meth.name = "<init>") (hn : narrow (tyJ0 0) v = v) (hfit : fits (tyJ0 0) v = true) (hl : 0 < fs.length) (hdg : decode cc pc = .ok (.putfield 9, 3)) (hws : ws.set q0 (a, .inr (0, fs.set 0 v)) = ws2) (q : ∀ (H1 : Heap) (locs1 : List Loc), WD k A H0 ws2 H1 locs1 → W p l e R s m args below meth c H1 locs1 cells slots Q (F0 m (pc + 3) ls rest)) : W p l e R s m args below meth c H locs cells slots Q (F0 m pc ls (v :: .ref a :: rest)) := by
  subst hws
  exact va_putF (C := RJ0) (T := TJ0) (N := 4) (ci := 0) (ty := tyJ0 0) E.hx E.hb (Ts := wsJ00) (fun w hw => E.w (inJ0 w hw) (tbl_laysJ0 w hw)) (fun _ h => h) tyJ0 tyJ0_ok nmJ0 E.ho E.hK hW.1 hW.2.1 hW.2.2 q0 he rfl 0 (by decide) (E.w tm_1110 rfl) (fun _ h => h) rfl hin rfl (tyJ0_ok 0 (by decide)) hn hfit hl hdg (fun H1 locs1 h1 h2 h3 => q H1 locs1 ⟨h1, h2, h3⟩)
theorem nw_J4_18 {p : Program} {l : Launch} {e : Env} {R : Room} {s : State} {m : MethodId} {args : Array Value} {below : List Frame} {meth : Method} {c : Code} {H : Heap} {locs : List Loc} {cells slots : Nat} {Q : State → Prop} {cc : ByteArray} {pc nL : Nat} {ls : Array Slot} {rest : List Value} {k : KT} {A : Nat → Prop} {ws : va_W} (E : E0 p s m c cc nL RJ4 k A) (hW : WD k A s.heap ws H locs) (hA : ∀ q : Nat, s.heap.size ≤ q → A q) (hc : cells + 1 ≤ R.cells) (hs : slots + 4 ≤ R.slots) (hdg : decode cc pc = .ok (.new 18, 3)) (q : ∀ (x : Nat) (H1 : Heap), WD k A s.heap (ws ++ [(x, .inr (0, [.null, .int 0, .int 0, .int 0]))]) H1 locs → W p l e R s m args below meth c H1 locs (cells + 1) (slots + 4) Q (F0 m (pc + 3) ls (.ref x :: rest))) : W p l e R s m args below meth c H locs cells slots Q (F0 m pc ls rest) :=
  va_new (ci := 0) (fs := [.null, .int 0, .int 0, .int 0]) (C := RJ0) (T := TJ0) (N := 4) (Ts := wsJ00) E.hx E.hb (fun w hw => E.w (inJ0 w hw) (tbl_laysJ0 w hw)) (fun _ h => h) tyJ0 tyJ0_ok E.ho (E.w tm_1068 rfl) (E.w tm_1069 rfl) (E.w tm_46 rfl) E.hK hW.1 hW.2.1 hW.2.2 hA rfl (fun j hj => match j, hj with | 0, _ => rfl | 1, _ => rfl | 2, _ => rfl | 3, _ => rfl | j + 4, h => absurd h (by omega)) hc hs hdg (fun x H1 h1 h2 h3 => q x H1 ⟨h1, h2, h3⟩)
theorem gf_J0_15 {p : Program} {l : Launch} {e : Env} {R : Room} {s : State} {m : MethodId} {args : Array Value} {below : List Frame} {meth : Method} {c : Code} {H : Heap} {locs : List Loc} {cells slots : Nat} {Q : State → Prop} {cc : ByteArray} {pc nL : Nat} {ls : Array Slot} {rest : List Value} {k : KT} {A : Nat → Prop} {ws : va_W} {H0 : Heap} {a : Nat} (E : E0 p s m c cc nL RJ0 k A) (hW : WD k A H0 ws H locs) (q0 : Nat) {fs : List Value} (he : ws[q0]? = some (a, .inr (0, fs))) {v : Value} (hv : fs[1]? = some v) (hdg : decode cc pc = .ok (.getfield 15, 3)) (q : W p l e R s m args below meth c H locs cells slots Q (F0 m (pc + 3) ls (v :: rest))) : W p l e R s m args below meth c H locs cells slots Q (F0 m pc ls (.ref a :: rest)) := va_get (C := RJ0) (T := TJ0) (N := 4) (ci := 0) E.hx E.hb (Ts := wsJ00) (fun w hw => E.w (inJ0 w hw) (tbl_laysJ0 w hw)) (fun _ h => h) E.ho E.hK hW.1 q0 he rfl 1 (by decide) (E.w tm_1111 rfl) (fun _ h => h) hv hdg q
theorem gf_J0_9 {p : Program} {l : Launch} {e : Env} {R : Room} {s : State} {m : MethodId} {args : Array Value} {below : List Frame} {meth : Method} {c : Code} {H : Heap} {locs : List Loc} {cells slots : Nat} {Q : State → Prop} {cc : ByteArray} {pc nL : Nat} {ls : Array Slot} {rest : List Value} {k : KT} {A : Nat → Prop} {ws : va_W} {H0 : Heap} {a : Nat} (E : E0 p s m c cc nL RJ0 k A) (hW : WD k A H0 ws H locs) (q0 : Nat) {fs : List Value} (he : ws[q0]? = some (a, .inr (0, fs))) {v : Value} (hv : fs[0]? = some v) (hdg : decode cc pc = .ok (.getfield 9, 3)) (q : W p l e R s m args below meth c H locs cells slots Q (F0 m (pc + 3) ls (v :: rest))) : W p l e R s m args below meth c H locs cells slots Q (F0 m pc ls (.ref a :: rest)) := va_get (C := RJ0) (T := TJ0) (N := 4) (ci := 0) E.hx E.hb (Ts := wsJ00) (fun w hw => E.w (inJ0 w hw) (tbl_laysJ0 w hw)) (fun _ h => h) E.ho E.hK hW.1 q0 he rfl 0 (by decide) (E.w tm_1110 rfl) (fun _ h => h) hv hdg q
theorem sl_J5_114 : SL RJ5 114 yJ8_newLength_cabcc cJ8_newLength_cabcc 4 (some .int) 3 := ⟨⟨tm_930, tm_931, tm_48, tm_932⟩, by decide +kernel⟩
theorem jp_J5_104 : JVP RJ5 104 yJ5_newCapacity_0f7a4 cJ5_newCapacity_0f7a4 6 (some .int) 1 := ⟨⟨tm_926, tm_928, List.mem_of_getElem? (i := 1) rfl, tm_44, tm_929⟩, by decide +kernel⟩
theorem sl_J5_108 : SL RJ5 108 yJ7_copyOf_9075b cJ7_copyOf_9075b 3 (some (.array .byte)) 2 := ⟨⟨tm_938, tm_939, tm_43, tm_940⟩, by decide +kernel⟩
theorem jp_J5_100 : JVP RJ5 100 yJ5_ensureCapacityInternal_d00df cJ5_ensureCapacityInternal_d00df 3 none 1 := ⟨⟨tm_922, tm_924, List.mem_of_getElem? (i := 0) rfl, tm_44, tm_925⟩, by decide +kernel⟩
theorem ji_J5_83 : JVI RJ5 RJ4 83 yJ5_isLatin1_aae02 cJ5_isLatin1_aae02 1 (some .boolean) 0 := ⟨⟨tm_950, tm_951, tm_953, tm_44, tm_954⟩, by decide +kernel⟩
theorem sl_J5_191 : SL RJ5 191 yJ1_canEncode_fc78d cJ1_canEncode_fc78d 1 (some .boolean) 1 := ⟨⟨tm_1048, tm_1049, tm_51, tm_1050⟩, by decide +kernel⟩
theorem vl_J5_40 : VL RJ5 40 RJ0 yJ0_coder_7d493 cJ0_coder_7d493 1 (some .byte) 0 := ⟨⟨tm_897, tm_699, tm_700, tm_46, tm_701⟩, by decide +kernel⟩
theorem jp_J5_397 : JVP RJ5 397 yJ5_inflateIfNeededFor_a7421 cJ5_inflateIfNeededFor_a7421 2 none 1 := ⟨⟨tm_975, tm_977, List.mem_of_getElem? (i := 3) rfl, tm_44, tm_978⟩, by decide +kernel⟩
theorem vl_J5_399 : VL RJ5 399 RJ0 yJ0_getBytes_840e7 cJ0_getBytes_840e7 4 none 3 := ⟨⟨tm_998, tm_999, tm_1000, tm_46, tm_1001⟩, by decide +kernel⟩
theorem vl_J5_32 : VL RJ5 32 RJ0 yJ0_length_8abf5 cJ0_length_8abf5 1 (some .int) 0 := ⟨⟨tm_894, tm_695, tm_696, tm_46, tm_697⟩, by decide +kernel⟩
theorem jp_J5_208 : JVP RJ5 208 yJ5_putStringAt_47b60 cJ5_putStringAt_47b60 3 none 2 := ⟨⟨tm_971, tm_973, List.mem_of_getElem? (i := 2) rfl, tm_44, tm_974⟩, by decide +kernel⟩
theorem sl_J5_245 : SL RJ5 245 yJ6_stringSize_0f7a4 cJ6_stringSize_0f7a4 4 (some .int) 1 := ⟨⟨tm_1023, tm_1024, tm_53, tm_1025⟩, by decide +kernel⟩
theorem sl_J5_248 : SL RJ5 248 yJ6_getChars_ba4f3 cJ6_getChars_ba4f3 7 (some .int) 3 := ⟨⟨tm_1026, tm_1027, tm_53, tm_1028⟩, by decide +kernel⟩
theorem js_J4_50 : JSU RJ4 50 yJ5_append_3fe6f cJ5_append_3fe6f 2 (some (.object "java/lang/AbstractStringBuilder")) 1 := ⟨by decide +kernel, by decide +kernel⟩
theorem js_J4_53 : JSU RJ4 53 yJ5_append_c97b9 cJ5_append_c97b9 4 (some (.object "java/lang/AbstractStringBuilder")) 1 := ⟨by decide +kernel, by decide +kernel⟩
theorem js_J4_29 : JSU RJ4 29 yJ5_append_cf1ce cJ5_append_cf1ce 3 (some (.object "java/lang/AbstractStringBuilder")) 1 := ⟨by decide +kernel, by decide +kernel⟩
theorem vl_J4_23 : VL RJ4 23 RJ4 yJ4_append_15ec4 cJ4_append_15ec4 2 (some (.object "java/lang/StringBuilder")) 1 := ⟨⟨tm_911, tm_912, tm_913, tm_45, tm_914⟩, by decide +kernel⟩
theorem jo_J5_43 : JVO RJ5 RJ4 43 yJ5_append_cf1ce yJ4_append_cf1ce cJ4_append_cf1ce 2 (some (.object "java/lang/AbstractStringBuilder")) cJ5_append_cf1ce 3 (some (.object "java/lang/AbstractStringBuilder")) 1 := ⟨by decide +kernel, tm_917, by decide +kernel⟩
theorem il_J4_7 : IL RJ4 7 yJ5_init_a7421 cJ5_init_a7421 5 1 := ⟨⟨tm_890, tm_891, tm_44, tm_892⟩, by decide +kernel⟩
theorem js_J4_343 : JSU RJ4 343 yJ5_length_8abf5 cJ5_length_8abf5 1 (some .int) 0 := ⟨by decide +kernel, by decide +kernel⟩
theorem sl_J7_343 : SL RJ7 343 yJ7_checkLength_df160 cJ7_checkLength_df160 2 none 2 := ⟨⟨tm_1097, tm_1098, tm_43, tm_1099⟩, by decide +kernel⟩
theorem sl_J7_339 : SL RJ7 339 yJ7_copyOfRangeByte_39247 cJ7_copyOfRangeByte_39247 5 (some (.array .byte)) 3 := ⟨⟨tm_1094, tm_1095, tm_43, tm_1096⟩, by decide +kernel⟩
theorem ji_J0_552 : JVI RJ0 RJ4 552 yJ5_getValue_6d5f1 cJ5_getValue_6d5f1 1 (some (.array .byte)) 0 := ⟨⟨tm_1077, tm_1078, tm_1080, tm_44, tm_1081⟩, by decide +kernel⟩
theorem jo_J0_549 : JVO RJ0 RJ4 549 yJ5_length_8abf5 yJ4_length_8abf5 cJ4_length_8abf5 1 (some .int) cJ5_length_8abf5 1 (some .int) 0 := ⟨by decide +kernel, tm_1089, by decide +kernel⟩
theorem ji_J0_1047 : JVI RJ0 RJ4 1047 yJ5_isLatin1_aae02 cJ5_isLatin1_aae02 1 (some .boolean) 0 := ⟨⟨tm_1090, tm_951, tm_953, tm_44, tm_954⟩, by decide +kernel⟩
theorem sl_J0_54 : SL RJ0 54 yJ7_copyOfRange_39247 cJ7_copyOfRange_39247 3 (some (.array .byte)) 3 := ⟨⟨tm_1091, tm_1092, tm_43, tm_1093⟩, by decide +kernel⟩
theorem il_J0_489 : IL RJ0 489 yJ0_init_db425 cJ0_init_db425 5 2 := ⟨⟨tm_1073, tm_1074, tm_46, tm_1075⟩, by decide +kernel⟩
theorem il_J4_137 : IL RJ4 137 yJ0_init_81219 cJ0_init_81219 2 1 := ⟨⟨tm_1070, tm_1071, tm_46, tm_1072⟩, by decide +kernel⟩
theorem dJ8_newLength_cabcc_0 : decode cJ8_newLength_cabcc 0 = .ok (.iload_n 0, 1) := by decide +kernel
theorem dJ8_newLength_cabcc_1 : decode cJ8_newLength_cabcc 1 = .ok (.iload_n 1, 1) := by decide +kernel
theorem dJ8_newLength_cabcc_2 : decode cJ8_newLength_cabcc 2 = .ok (.iload_n 2, 1) := by decide +kernel
theorem dJ8_newLength_cabcc_3 : decode cJ8_newLength_cabcc 3 = .ok (.invokestatic 194, 3) := by decide +kernel
theorem dJ8_newLength_cabcc_6 : decode cJ8_newLength_cabcc 6 = .ok (.iadd, 1) := by decide +kernel
theorem dJ8_newLength_cabcc_7 : decode cJ8_newLength_cabcc 7 = .ok (.istore_n 3, 1) := by decide +kernel
theorem dJ8_newLength_cabcc_8 : decode cJ8_newLength_cabcc 8 = .ok (.iconst 0, 1) := by decide +kernel
theorem dJ8_newLength_cabcc_9 : decode cJ8_newLength_cabcc 9 = .ok (.iload_n 3, 1) := by decide +kernel
theorem dJ8_newLength_cabcc_10 : decode cJ8_newLength_cabcc 10 = .ok (.if_icmp .ge 11, 3) := by decide +kernel
theorem dJ8_newLength_cabcc_13 : decode cJ8_newLength_cabcc 13 = .ok (.iload_n 3, 1) := by decide +kernel
theorem dJ8_newLength_cabcc_14 : decode cJ8_newLength_cabcc 14 = .ok (.ldc 200, 2) := by decide +kernel
theorem dJ8_newLength_cabcc_16 : decode cJ8_newLength_cabcc 16 = .ok (.if_icmp .gt 5, 3) := by decide +kernel
theorem dJ8_newLength_cabcc_19 : decode cJ8_newLength_cabcc 19 = .ok (.iload_n 3, 1) := by decide +kernel
theorem dJ8_newLength_cabcc_20 : decode cJ8_newLength_cabcc 20 = .ok (.ireturn, 1) := by decide +kernel
theorem dJ8_newLength_cabcc_21 : decode cJ8_newLength_cabcc 21 = .ok (.iload_n 0, 1) := by decide +kernel
theorem dJ8_newLength_cabcc_22 : decode cJ8_newLength_cabcc 22 = .ok (.iload_n 1, 1) := by decide +kernel
theorem dJ8_newLength_cabcc_23 : decode cJ8_newLength_cabcc 23 = .ok (.invokestatic 201, 3) := by decide +kernel
theorem dJ8_newLength_cabcc_26 : decode cJ8_newLength_cabcc 26 = .ok (.ireturn, 1) := by decide +kernel
theorem nI_nlt0 {a : Nat} (h : a ≤ 2147483639) : ¬ (2147483639 : Int32) < nI a := by
  rw [Int32.lt_iff_toInt_lt, nI_toInt (by omega)]
  have : (2147483639 : Int32).toInt = 2147483639 := by decide
  omega
set_option maxHeartbeats 4000000 in
set_option maxRecDepth 100000 in
theorem c_newLen (l : Launch) (k : KT) (x y z : Nat) (h0 : 0 < x + max y z) (h : x + max y z ≤ 100000) : CG l k yJ8_newLength_cabcc cJ8_newLength_cabcc 4 (some .int) 1 0 0 22 [.int (nI x), .int (nI y), .int (nI z)] ([]) (Qi k (fun u : Unit => []) (fun (r : Int32) (u : Unit) => nI (x + max y z) = r)) := by
  refine CG.ofI (by decide) (Nat.le_of_ble_eq_true rfl) (fun p e s m args below meth c A Q E hnm hW hA hret ls hl => ?_)
  have hl : lv_has ls 4 [(0, .int (nI x)), (1, .int (nI y)), (2, .int (nI z))] := hl
  refine k_iload_n E hl 0 dJ8_newLength_cabcc_0 rfl ?_
  refine k_iload_n E hl 1 dJ8_newLength_cabcc_1 rfl ?_
  refine k_iload_n E hl 2 dJ8_newLength_cabcc_2 rfl ?_
  refine va_mmax E.hx E.hb (E.hml.trans hl.1.symm) E.ho (E.w tm_933 rfl) (E.w tm_77 rfl) (E.w tm_35 rfl) (E.w tm_78 rfl) (by first | decide | exact Nat.le_of_ble_eq_true rfl | (show _ ≤ _; omega) | (simp; omega) | simp) (by first | decide | exact Nat.le_of_ble_eq_true rfl | (show _ ≤ _; omega) | (simp; omega) | simp) (by first | decide | exact Nat.le_of_ble_eq_true rfl | (show _ ≤ _; omega) | (simp; omega) | simp) (by first | decide | exact Nat.le_of_ble_eq_true rfl | (show _ ≤ _; omega) | (simp; omega) | simp) dJ8_newLength_cabcc_3 ?_
  refine k_topi (y := (nI (max y z))) ((sx_max (by omega) (by omega)).symm) ?_
  refine lv_iadd E.hx E.hb dJ8_newLength_cabcc_6 ?_
  refine k_topi (y := nI (x + max y z)) ((nI_add x (max y z)).symm) ?_
  refine k_istore_n (lv' := [(3, .int (nI (x + max y z))), (0, .int (nI x)), (1, .int (nI y)), (2, .int (nI z))]) E rfl hl dJ8_newLength_cabcc_7 rfl (by decide) rfl (fun ls hl => ?_)
  refine lv_iconst (v := (0 : Int32)) E.hx E.hb dJ8_newLength_cabcc_8 ic_0 ?_
  refine k_iload_n E hl 0 dJ8_newLength_cabcc_9 rfl ?_
  refine lv_icmp_ge (tgt := 21) E.hx E.hb dJ8_newLength_cabcc_10 (by decide) (fun hc => absurd hc (nI_nle (by omega) (by omega))) (fun hc => ?_)
  refine k_iload_n E hl 0 dJ8_newLength_cabcc_13 rfl ?_
  refine lv_ldc E.hx E.hb E.ho (E.w tm_934 rfl) dJ8_newLength_cabcc_14 ?_
  refine lv_icmp_gt (tgt := 21) E.hx E.hb dJ8_newLength_cabcc_16 (by decide) (fun hc => absurd hc (nI_nlt0 (by omega))) (fun hc => ?_)
  refine k_iload_n E hl 0 dJ8_newLength_cabcc_19 rfl ?_
  exact hret _ () _ _ _ _ _ _ hW rfl rfl (by decide) (by decide) dJ8_newLength_cabcc_20

theorem dJ5_newCapacity_0f7a4_0 : decode cJ5_newCapacity_0f7a4 0 = .ok (.aload_n 0, 1) := by decide +kernel
theorem dJ5_newCapacity_0f7a4_1 : decode cJ5_newCapacity_0f7a4 1 = .ok (.getfield 15, 3) := by decide +kernel
theorem dJ5_newCapacity_0f7a4_4 : decode cJ5_newCapacity_0f7a4 4 = .ok (.arraylength, 1) := by decide +kernel
theorem dJ5_newCapacity_0f7a4_5 : decode cJ5_newCapacity_0f7a4 5 = .ok (.istore_n 2, 1) := by decide +kernel
theorem dJ5_newCapacity_0f7a4_6 : decode cJ5_newCapacity_0f7a4 6 = .ok (.iload_n 1, 1) := by decide +kernel
theorem dJ5_newCapacity_0f7a4_7 : decode cJ5_newCapacity_0f7a4 7 = .ok (.aload_n 0, 1) := by decide +kernel
theorem dJ5_newCapacity_0f7a4_8 : decode cJ5_newCapacity_0f7a4 8 = .ok (.getfield 22, 3) := by decide +kernel
theorem dJ5_newCapacity_0f7a4_11 : decode cJ5_newCapacity_0f7a4 11 = .ok (.ishl, 1) := by decide +kernel
theorem dJ5_newCapacity_0f7a4_12 : decode cJ5_newCapacity_0f7a4 12 = .ok (.istore_n 3, 1) := by decide +kernel
theorem dJ5_newCapacity_0f7a4_13 : decode cJ5_newCapacity_0f7a4 13 = .ok (.iload_n 3, 1) := by decide +kernel
theorem dJ5_newCapacity_0f7a4_14 : decode cJ5_newCapacity_0f7a4 14 = .ok (.iload_n 2, 1) := by decide +kernel
theorem dJ5_newCapacity_0f7a4_15 : decode cJ5_newCapacity_0f7a4 15 = .ok (.isub, 1) := by decide +kernel
theorem dJ5_newCapacity_0f7a4_16 : decode cJ5_newCapacity_0f7a4 16 = .ok (.istore 4, 2) := by decide +kernel
theorem dJ5_newCapacity_0f7a4_18 : decode cJ5_newCapacity_0f7a4 18 = .ok (.iload_n 2, 1) := by decide +kernel
theorem dJ5_newCapacity_0f7a4_19 : decode cJ5_newCapacity_0f7a4 19 = .ok (.iload 4, 2) := by decide +kernel
theorem dJ5_newCapacity_0f7a4_21 : decode cJ5_newCapacity_0f7a4 21 = .ok (.iload_n 2, 1) := by decide +kernel
theorem dJ5_newCapacity_0f7a4_22 : decode cJ5_newCapacity_0f7a4 22 = .ok (.iconst 2, 1) := by decide +kernel
theorem dJ5_newCapacity_0f7a4_23 : decode cJ5_newCapacity_0f7a4 23 = .ok (.aload_n 0, 1) := by decide +kernel
theorem dJ5_newCapacity_0f7a4_24 : decode cJ5_newCapacity_0f7a4 24 = .ok (.getfield 22, 3) := by decide +kernel
theorem dJ5_newCapacity_0f7a4_27 : decode cJ5_newCapacity_0f7a4 27 = .ok (.ishl, 1) := by decide +kernel
theorem dJ5_newCapacity_0f7a4_28 : decode cJ5_newCapacity_0f7a4 28 = .ok (.iadd, 1) := by decide +kernel
theorem dJ5_newCapacity_0f7a4_29 : decode cJ5_newCapacity_0f7a4 29 = .ok (.invokestatic 114, 3) := by decide +kernel
theorem dJ5_newCapacity_0f7a4_32 : decode cJ5_newCapacity_0f7a4 32 = .ok (.istore 5, 2) := by decide +kernel
theorem dJ5_newCapacity_0f7a4_34 : decode cJ5_newCapacity_0f7a4 34 = .ok (.iload 5, 2) := by decide +kernel
theorem dJ5_newCapacity_0f7a4_36 : decode cJ5_newCapacity_0f7a4 36 = .ok (.ldc 39, 2) := by decide +kernel
theorem dJ5_newCapacity_0f7a4_38 : decode cJ5_newCapacity_0f7a4 38 = .ok (.if_icmp .ne 13, 3) := by decide +kernel
theorem dJ5_newCapacity_0f7a4_41 : decode cJ5_newCapacity_0f7a4 41 = .ok (.new 120, 3) := by decide +kernel
theorem dJ5_newCapacity_0f7a4_44 : decode cJ5_newCapacity_0f7a4 44 = .ok (.dup, 1) := by decide +kernel
theorem dJ5_newCapacity_0f7a4_45 : decode cJ5_newCapacity_0f7a4 45 = .ok (.ldc 122, 2) := by decide +kernel
theorem dJ5_newCapacity_0f7a4_47 : decode cJ5_newCapacity_0f7a4 47 = .ok (.invokespecial 124, 3) := by decide +kernel
theorem dJ5_newCapacity_0f7a4_50 : decode cJ5_newCapacity_0f7a4 50 = .ok (.athrow, 1) := by decide +kernel
theorem dJ5_newCapacity_0f7a4_51 : decode cJ5_newCapacity_0f7a4 51 = .ok (.iload 5, 2) := by decide +kernel
theorem dJ5_newCapacity_0f7a4_53 : decode cJ5_newCapacity_0f7a4 53 = .ok (.aload_n 0, 1) := by decide +kernel
theorem dJ5_newCapacity_0f7a4_54 : decode cJ5_newCapacity_0f7a4 54 = .ok (.getfield 22, 3) := by decide +kernel
theorem dJ5_newCapacity_0f7a4_57 : decode cJ5_newCapacity_0f7a4 57 = .ok (.ishr, 1) := by decide +kernel
theorem dJ5_newCapacity_0f7a4_58 : decode cJ5_newCapacity_0f7a4 58 = .ok (.ireturn, 1) := by decide +kernel
theorem nI_nmax {a : Nat} (h : a < 2147483647) : ¬ nI a = (2147483647 : Int32) := fun z => by
  have h1 : (nI a).toInt = (2147483647 : Int32).toInt := by rw [z]
  rw [nI_toInt (by omega)] at h1
  have : (2147483647 : Int32).toInt = 2147483647 := by decide
  omega
set_option maxHeartbeats 4000000 in
set_option maxRecDepth 100000 in
theorem c_newCap (l : Launch) (k : KT) (a v cap cnt q : Nat) (ml : Int32) (f : Nat → Int32) (h : cap < q) (h2 : q ≤ 600) (h3 : cap ≤ 602) : CG l k yJ5_newCapacity_0f7a4 cJ5_newCapacity_0f7a4 6 (some .int) 2 0 0 45 [.ref a, .int (nI q)] (wSB k a v cap ml cnt f) (Qi k (fun u : Unit => wSB k a v cap ml cnt f) (fun (r : Int32) (u : Unit) => nI (cap + max (q - cap) (cap + 2)) = r)) := by
  refine CG.ofI (by decide) (Nat.le_of_ble_eq_true rfl) (fun p e s m args below meth c A Q E hnm hW hA hret ls hl => ?_)
  have hl : lv_has ls 6 [(0, .ref a), (1, .int (nI q))] := hl
  refine k_aload_n E hl 0 dJ5_newCapacity_0f7a4_0 rfl ?_
  refine gf_J5_15 E hW 0 rfl rfl dJ5_newCapacity_0f7a4_1 ?_
  refine k_alen (v := nI cap) E hW 1 2 rfl rfl rfl dJ5_newCapacity_0f7a4_4 ?_
  refine k_istore_n (lv' := [(2, .int (nI cap)), (0, .ref a), (1, .int (nI q))]) E rfl hl dJ5_newCapacity_0f7a4_5 rfl (by decide) rfl (fun ls hl => ?_)
  refine k_iload_n E hl 2 dJ5_newCapacity_0f7a4_6 rfl ?_
  refine k_aload_n E hl 1 dJ5_newCapacity_0f7a4_7 rfl ?_
  refine gf_J5_22 E hW 0 rfl rfl dJ5_newCapacity_0f7a4_8 ?_
  refine lv_ishl E.hx E.hb dJ5_newCapacity_0f7a4_11 ?_
  refine k_topi (y := (nI q)) (sb_shl0 _).symm ?_
  refine k_istore_n (lv' := [(3, .int (nI q)), (2, .int (nI cap)), (0, .ref a), (1, .int (nI q))]) E rfl hl dJ5_newCapacity_0f7a4_12 rfl (by decide) rfl (fun ls hl => ?_)
  refine k_iload_n E hl 0 dJ5_newCapacity_0f7a4_13 rfl ?_
  refine k_iload_n E hl 1 dJ5_newCapacity_0f7a4_14 rfl ?_
  refine lv_isub E.hx E.hb dJ5_newCapacity_0f7a4_15 ?_
  refine k_topi (y := (nI (q - cap))) ((pk_sub (by omega)).symm) ?_
  refine k_istore (lv' := [(4, .int (nI (q - cap))), (3, .int (nI q)), (2, .int (nI cap)), (0, .ref a), (1, .int (nI q))]) E rfl hl dJ5_newCapacity_0f7a4_16 (by decide) rfl (fun ls hl => ?_)
  refine k_iload_n E hl 2 dJ5_newCapacity_0f7a4_18 rfl ?_
  refine k_iload E hl 0 dJ5_newCapacity_0f7a4_19 rfl ?_
  refine k_iload_n E hl 2 dJ5_newCapacity_0f7a4_21 rfl ?_
  refine lv_iconst (v := (2 : Int32)) E.hx E.hb dJ5_newCapacity_0f7a4_22 ic_2 ?_
  refine k_aload_n E hl 3 dJ5_newCapacity_0f7a4_23 rfl ?_
  refine gf_J5_22 E hW 0 rfl rfl dJ5_newCapacity_0f7a4_24 ?_
  refine lv_ishl E.hx E.hb dJ5_newCapacity_0f7a4_27 ?_
  refine k_topi (y := (2 : Int32)) (by decide) ?_
  refine lv_iadd E.hx E.hb dJ5_newCapacity_0f7a4_28 ?_
  refine k_topi (y := (nI (cap + 2))) ((nI_add cap 2).symm) ?_
  have hlt : cap + max (q - cap) (cap + 2) ≤ 1202 := by omega
  refine k_fini (X := wSB k a v cap ml cnt f) (k_rS (X := wSB k a v cap ml cnt f) (As := [.int (nI cap), .int (nI (q - cap)), .int (nI (cap + 2))]) (rest := []) (c_newLen l k cap (q - cap) (cap + 2) (by omega) (by omega)) E sl_J5_114 dJ5_newCapacity_0f7a4_29 hW hA hl rfl ⟨by decide, by decide⟩ ⟨by decide, by decide⟩ (Nat.le_of_ble_eq_true rfl)) E hW hA (fun r u H locs hp hW => ?_)
  subst hp
  have hW : WD k A s.heap (wSB k a v cap ml cnt f) H locs := by rw [List.append_nil] at hW; exact hW
  refine k_istore (lv' := [(5, .int (nI (cap + max (q - cap) (cap + 2)))), (4, .int (nI (q - cap))), (3, .int (nI q)), (2, .int (nI cap)), (0, .ref a), (1, .int (nI q))]) E rfl hl dJ5_newCapacity_0f7a4_32 (by decide) rfl (fun ls hl => ?_)
  refine k_iload E hl 0 dJ5_newCapacity_0f7a4_34 rfl ?_
  refine lv_ldc E.hx E.hb E.ho (E.w tm_896 rfl) dJ5_newCapacity_0f7a4_36 ?_
  refine lv_icmp_ne (tgt := 51) E.hx E.hb dJ5_newCapacity_0f7a4_38 (by decide) (fun hc => ?_) (fun hc => absurd hc (nI_nmax (by omega)))
  refine k_iload E hl 0 dJ5_newCapacity_0f7a4_51 rfl ?_
  refine k_aload_n E hl 4 dJ5_newCapacity_0f7a4_53 rfl ?_
  refine gf_J5_22 E hW 0 rfl rfl dJ5_newCapacity_0f7a4_54 ?_
  refine lv_ishr E.hx E.hb dJ5_newCapacity_0f7a4_57 ?_
  refine k_topi (y := (nI (cap + max (q - cap) (cap + 2)))) (sb_shr0 _).symm ?_
  exact hret _ () _ _ _ _ _ _ hW rfl rfl (by decide) (by decide) dJ5_newCapacity_0f7a4_58

theorem dJ7_copyOf_9075b_0 : decode cJ7_copyOf_9075b 0 = .ok (.iload_n 1, 1) := by decide +kernel
theorem dJ7_copyOf_9075b_1 : decode cJ7_copyOf_9075b 1 = .ok (.aload_n 0, 1) := by decide +kernel
theorem dJ7_copyOf_9075b_2 : decode cJ7_copyOf_9075b 2 = .ok (.arraylength, 1) := by decide +kernel
theorem dJ7_copyOf_9075b_3 : decode cJ7_copyOf_9075b 3 = .ok (.if_icmp .ne 11, 3) := by decide +kernel
theorem dJ7_copyOf_9075b_6 : decode cJ7_copyOf_9075b 6 = .ok (.aload_n 0, 1) := by decide +kernel
theorem dJ7_copyOf_9075b_7 : decode cJ7_copyOf_9075b 7 = .ok (.invokevirtual 310, 3) := by decide +kernel
theorem dJ7_copyOf_9075b_10 : decode cJ7_copyOf_9075b 10 = .ok (.checkcast 311, 3) := by decide +kernel
theorem dJ7_copyOf_9075b_13 : decode cJ7_copyOf_9075b 13 = .ok (.areturn, 1) := by decide +kernel
theorem dJ7_copyOf_9075b_14 : decode cJ7_copyOf_9075b 14 = .ok (.iload_n 1, 1) := by decide +kernel
theorem dJ7_copyOf_9075b_15 : decode cJ7_copyOf_9075b 15 = .ok (.newarray .byte, 2) := by decide +kernel
theorem dJ7_copyOf_9075b_17 : decode cJ7_copyOf_9075b 17 = .ok (.astore_n 2, 1) := by decide +kernel
theorem dJ7_copyOf_9075b_18 : decode cJ7_copyOf_9075b 18 = .ok (.aload_n 0, 1) := by decide +kernel
theorem dJ7_copyOf_9075b_19 : decode cJ7_copyOf_9075b 19 = .ok (.iconst 0, 1) := by decide +kernel
theorem dJ7_copyOf_9075b_20 : decode cJ7_copyOf_9075b 20 = .ok (.aload_n 2, 1) := by decide +kernel
theorem dJ7_copyOf_9075b_21 : decode cJ7_copyOf_9075b 21 = .ok (.iconst 0, 1) := by decide +kernel
theorem dJ7_copyOf_9075b_22 : decode cJ7_copyOf_9075b 22 = .ok (.aload_n 0, 1) := by decide +kernel
theorem dJ7_copyOf_9075b_23 : decode cJ7_copyOf_9075b 23 = .ok (.arraylength, 1) := by decide +kernel
theorem dJ7_copyOf_9075b_24 : decode cJ7_copyOf_9075b 24 = .ok (.iload_n 1, 1) := by decide +kernel
theorem dJ7_copyOf_9075b_25 : decode cJ7_copyOf_9075b 25 = .ok (.invokestatic 304, 3) := by decide +kernel
theorem dJ7_copyOf_9075b_28 : decode cJ7_copyOf_9075b 28 = .ok (.invokestatic 150, 3) := by decide +kernel
theorem dJ7_copyOf_9075b_31 : decode cJ7_copyOf_9075b 31 = .ok (.aload_n 2, 1) := by decide +kernel
theorem dJ7_copyOf_9075b_32 : decode cJ7_copyOf_9075b 32 = .ok (.areturn, 1) := by decide +kernel
set_option maxHeartbeats 4000000 in
set_option maxRecDepth 100000 in
theorem c_copyOf (l : Launch) (k : KT) (v cap c1 : Nat) (f : Nat → Int32) (hf : sb_Fit f) (h : cap < c1) (h2 : c1 ≤ 1300) : CG l k yJ7_copyOf_9075b cJ7_copyOf_9075b 3 (some (.array .byte)) 1 1 c1 26 [.ref v, .int (nI c1)] ([(v, .inl (k.2.1.1 2, cap, .inl f))]) (Qw k (fun u : Nat => [(v, .inl (k.2.1.1 2, cap, .inl f)), (u, .inl (k.2.1.1 2, c1, .inl (va_cpy f (fun _ => 0) 0 0 cap)))]) (fun (r : Nat) (u : Nat) => r = u)) := by
  refine CG.ofQ (by decide) (Nat.le_of_ble_eq_true rfl) (fun p e s m args below meth c A Q E hnm hW hA hret ls hl => ?_)
  have hl : lv_has ls 3 [(0, .ref v), (1, .int (nI c1))] := hl
  refine k_iload_n E hl 1 dJ7_copyOf_9075b_0 rfl ?_
  refine k_aload_n E hl 0 dJ7_copyOf_9075b_1 rfl ?_
  refine k_alen (v := nI cap) E hW 0 2 rfl rfl rfl dJ7_copyOf_9075b_2 ?_
  refine lv_icmp_ne (tgt := 14) E.hx E.hb dJ7_copyOf_9075b_3 (by decide) (fun hc => ?_) (fun hc => absurd (sx_inj (by omega) (by omega) hc) (by omega))
  refine k_iload_n E hl 1 dJ7_copyOf_9075b_14 rfl ?_
  refine k_newB (N := c1) E hW hA (nI_pos (by omega)) (nI_clamp (by omega)) (by omega) (by first | exact Nat.le_of_ble_eq_true rfl | exact Nat.le_refl _ | omega) (by first | decide | exact Nat.le_of_ble_eq_true rfl | exact Nat.le_refl _ | (simp; omega) | simp | omega) dJ7_copyOf_9075b_15 (fun q1 H hW => ?_)
  have hW : WD k A s.heap ([(v, .inl (k.2.1.1 2, cap, .inl f)), (q1, .inl (k.2.1.1 2, c1, .inl (fun _ => 0)))]) H _ := hW
  refine lv_astore_n (lv' := [(2, .ref q1), (0, .ref v), (1, .int (nI c1))]) E.hx E.hb dJ7_copyOf_9075b_17 rfl hl (by decide) rfl (fun ls hl => ?_)
  refine k_aload_n E hl 1 dJ7_copyOf_9075b_18 rfl ?_
  refine lv_iconst (v := (0 : Int32)) E.hx E.hb dJ7_copyOf_9075b_19 ic_0 ?_
  refine k_aload_n E hl 0 dJ7_copyOf_9075b_20 rfl ?_
  refine lv_iconst (v := (0 : Int32)) E.hx E.hb dJ7_copyOf_9075b_21 ic_0 ?_
  refine k_aload_n E hl 1 dJ7_copyOf_9075b_22 rfl ?_
  refine k_alen (v := nI cap) E hW 0 2 rfl rfl rfl dJ7_copyOf_9075b_23 ?_
  refine k_iload_n E hl 2 dJ7_copyOf_9075b_24 rfl ?_
  refine va_mmin E.hx E.hb (E.hml.trans hl.1.symm) E.ho (E.w tm_948 rfl) (E.w tm_537 rfl) (E.w tm_35 rfl) (E.w tm_538 rfl) (by first | decide | exact Nat.le_of_ble_eq_true rfl | (show _ ≤ _; omega) | (simp; omega) | simp) (by first | decide | exact Nat.le_of_ble_eq_true rfl | (show _ ≤ _; omega) | (simp; omega) | simp) (by first | decide | exact Nat.le_of_ble_eq_true rfl | (show _ ≤ _; omega) | (simp; omega) | simp) (by first | decide | exact Nat.le_of_ble_eq_true rfl | (show _ ≤ _; omega) | (simp; omega) | simp) dJ7_copyOf_9075b_25 ?_
  refine k_topi (y := (nI cap)) ((if_neg (nI_nlt (by omega) (by omega))).symm) ?_
  refine va_copyi E.hx E.hb (E.hml.trans hl.1.symm) E.ho (E.w tm_949 rfl) (E.w tm_531 rfl) (E.w tm_530 rfl) (E.w tm_49 rfl) E.hK hW.1 hW.2.1 hW.2.2 0 1 2 2 rfl rfl rfl rfl rfl (by decide) (by decide) (nI_pos (by omega)) (by rw [nI_clamp (by omega)]; show 0 + cap ≤ cap; omega) (by rw [nI_clamp (by omega)]; show 0 + cap ≤ c1; omega) (fun i _ => hf _) (by first | decide | exact Nat.le_of_ble_eq_true rfl | (show _ ≤ _; omega) | (simp; omega) | simp) (by first | decide | exact Nat.le_of_ble_eq_true rfl | (show _ ≤ _; omega) | (simp; omega) | simp) dJ7_copyOf_9075b_28 (fun H locs h1 h2 h3 => ?_)
  have hW : WD k A s.heap ([(v, .inl (k.2.1.1 2, cap, .inl f)), (q1, .inl (k.2.1.1 2, c1, .inl (va_cpy f (fun _ => 0) 0 0 cap)))]) H locs := by
    have e : (nI cap).toNatClampNeg = cap := nI_clamp (by omega)
    rw [e, sb_cl0] at h1 h2
    exact ⟨h1, h2, h3⟩
  refine k_aload_n E hl 0 dJ7_copyOf_9075b_31 rfl ?_
  exact hret q1 q1 _ _ _ _ _ _ hW rfl (by first | decide | exact Nat.le_of_ble_eq_true rfl | exact Nat.le_refl _ | (simp; omega) | simp | omega) (by first | decide | exact Nat.le_of_ble_eq_true rfl | exact Nat.le_refl _ | (simp; omega) | simp | omega) dJ7_copyOf_9075b_32

theorem dJ5_ensureCapacityInternal_d00df_0 : decode cJ5_ensureCapacityInternal_d00df 0 = .ok (.aload_n 0, 1) := by decide +kernel
theorem dJ5_ensureCapacityInternal_d00df_1 : decode cJ5_ensureCapacityInternal_d00df 1 = .ok (.getfield 15, 3) := by decide +kernel
theorem dJ5_ensureCapacityInternal_d00df_4 : decode cJ5_ensureCapacityInternal_d00df 4 = .ok (.arraylength, 1) := by decide +kernel
theorem dJ5_ensureCapacityInternal_d00df_5 : decode cJ5_ensureCapacityInternal_d00df 5 = .ok (.aload_n 0, 1) := by decide +kernel
theorem dJ5_ensureCapacityInternal_d00df_6 : decode cJ5_ensureCapacityInternal_d00df 6 = .ok (.getfield 22, 3) := by decide +kernel
theorem dJ5_ensureCapacityInternal_d00df_9 : decode cJ5_ensureCapacityInternal_d00df 9 = .ok (.ishr, 1) := by decide +kernel
theorem dJ5_ensureCapacityInternal_d00df_10 : decode cJ5_ensureCapacityInternal_d00df 10 = .ok (.istore_n 2, 1) := by decide +kernel
theorem dJ5_ensureCapacityInternal_d00df_11 : decode cJ5_ensureCapacityInternal_d00df 11 = .ok (.iload_n 1, 1) := by decide +kernel
theorem dJ5_ensureCapacityInternal_d00df_12 : decode cJ5_ensureCapacityInternal_d00df 12 = .ok (.iload_n 2, 1) := by decide +kernel
theorem dJ5_ensureCapacityInternal_d00df_13 : decode cJ5_ensureCapacityInternal_d00df 13 = .ok (.isub, 1) := by decide +kernel
theorem dJ5_ensureCapacityInternal_d00df_14 : decode cJ5_ensureCapacityInternal_d00df 14 = .ok (.ifCond .le 24, 3) := by decide +kernel
theorem dJ5_ensureCapacityInternal_d00df_17 : decode cJ5_ensureCapacityInternal_d00df 17 = .ok (.aload_n 0, 1) := by decide +kernel
theorem dJ5_ensureCapacityInternal_d00df_18 : decode cJ5_ensureCapacityInternal_d00df 18 = .ok (.aload_n 0, 1) := by decide +kernel
theorem dJ5_ensureCapacityInternal_d00df_19 : decode cJ5_ensureCapacityInternal_d00df 19 = .ok (.getfield 15, 3) := by decide +kernel
theorem dJ5_ensureCapacityInternal_d00df_22 : decode cJ5_ensureCapacityInternal_d00df 22 = .ok (.aload_n 0, 1) := by decide +kernel
theorem dJ5_ensureCapacityInternal_d00df_23 : decode cJ5_ensureCapacityInternal_d00df 23 = .ok (.iload_n 1, 1) := by decide +kernel
theorem dJ5_ensureCapacityInternal_d00df_24 : decode cJ5_ensureCapacityInternal_d00df 24 = .ok (.invokevirtual 104, 3) := by decide +kernel
theorem dJ5_ensureCapacityInternal_d00df_27 : decode cJ5_ensureCapacityInternal_d00df 27 = .ok (.aload_n 0, 1) := by decide +kernel
theorem dJ5_ensureCapacityInternal_d00df_28 : decode cJ5_ensureCapacityInternal_d00df 28 = .ok (.getfield 22, 3) := by decide +kernel
theorem dJ5_ensureCapacityInternal_d00df_31 : decode cJ5_ensureCapacityInternal_d00df 31 = .ok (.ishl, 1) := by decide +kernel
theorem dJ5_ensureCapacityInternal_d00df_32 : decode cJ5_ensureCapacityInternal_d00df 32 = .ok (.invokestatic 108, 3) := by decide +kernel
theorem dJ5_ensureCapacityInternal_d00df_35 : decode cJ5_ensureCapacityInternal_d00df 35 = .ok (.putfield 15, 3) := by decide +kernel
theorem dJ5_ensureCapacityInternal_d00df_38 : decode cJ5_ensureCapacityInternal_d00df 38 = .ok (.return_, 1) := by decide +kernel
set_option maxHeartbeats 4000000 in
set_option maxRecDepth 100000 in
theorem c_ens (l : Launch) (k : KT) (hE : EH k) (a v cap cnt q : Nat) (ml : Int32) (f : Nat → Int32) (hf : sb_Fit f) (h2 : q ≤ 300) (hcap : cap ≤ 602) : CG l k yJ5_ensureCapacityInternal_d00df cJ5_ensureCapacityInternal_d00df 3 none 3 1 700 70 [.ref a, .int (nI q)] (wSB k a v cap ml cnt f) (Qv k (fun u : Nat × Nat × (Nat → Int32) => wSB k a u.1 u.2.1 ml cnt u.2.2) (fun u : Nat × Nat × (Nat → Int32) => q ≤ u.2.1 ∧ cap ≤ u.2.1 ∧ u.2.1 ≤ 602 ∧ sb_Fit u.2.2 ∧ ∀ j, j < cap → u.2.2 j = f j)) := by
  refine CG.ofV (by decide) (Nat.le_of_ble_eq_true rfl) (fun p e s m args below meth c A Q E hnm hW hA hret ls hl => ?_)
  have hl : lv_has ls 3 [(0, .ref a), (1, .int (nI q))] := hl
  refine k_aload_n E hl 0 dJ5_ensureCapacityInternal_d00df_0 rfl ?_
  refine gf_J5_15 E hW 0 rfl rfl dJ5_ensureCapacityInternal_d00df_1 ?_
  refine k_alen (v := nI cap) E hW 1 2 rfl rfl rfl dJ5_ensureCapacityInternal_d00df_4 ?_
  refine k_aload_n E hl 0 dJ5_ensureCapacityInternal_d00df_5 rfl ?_
  refine gf_J5_22 E hW 0 rfl rfl dJ5_ensureCapacityInternal_d00df_6 ?_
  refine lv_ishr E.hx E.hb dJ5_ensureCapacityInternal_d00df_9 ?_
  refine k_topi (y := (nI cap)) (sb_shr0 _).symm ?_
  refine k_istore_n (lv' := [(2, .int (nI cap)), (0, .ref a), (1, .int (nI q))]) E rfl hl dJ5_ensureCapacityInternal_d00df_10 rfl (by decide) rfl (fun ls hl => ?_)
  refine k_iload_n E hl 2 dJ5_ensureCapacityInternal_d00df_11 rfl ?_
  refine k_iload_n E hl 0 dJ5_ensureCapacityInternal_d00df_12 rfl ?_
  refine lv_isub E.hx E.hb dJ5_ensureCapacityInternal_d00df_13 ?_
  refine lv_if_le (tgt := 38) E.hx E.hb dJ5_ensureCapacityInternal_d00df_14 (by decide) (fun hc => ?_) (fun hc => ?_)
  · exact hret (v, cap, f) _ _ _ _ _ _ hW ⟨show q ≤ cap from (sx_le0 (by omega) (by omega)).mp hc, Nat.le_refl _, hcap, hf, fun _ _ => rfl⟩ (by first | exact Nat.zero_le _ | decide) (by first | exact Nat.zero_le _ | decide) dJ5_ensureCapacityInternal_d00df_38
  have hlt : cap < q := Nat.lt_of_not_le fun z => hc ((sx_le0 (by omega) (by omega)).mpr z)
  refine k_aload_n E hl 1 dJ5_ensureCapacityInternal_d00df_17 rfl ?_
  refine k_aload_n E hl 1 dJ5_ensureCapacityInternal_d00df_18 rfl ?_
  refine gf_J5_15 E hW 0 rfl rfl dJ5_ensureCapacityInternal_d00df_19 ?_
  refine k_aload_n E hl 1 dJ5_ensureCapacityInternal_d00df_22 rfl ?_
  refine k_iload_n E hl 2 dJ5_ensureCapacityInternal_d00df_23 rfl ?_
  refine k_fini (X := []) (k_rV (X := []) (As := [.int (nI q)]) (rest := [.ref v, .ref a]) (c_newCap l k a v cap cnt q ml f hlt (by omega) hcap) E (jp_J5_104.cw hE E ⟨by decide, by decide⟩) dJ5_ensureCapacityInternal_d00df_24 (va_recv E.hK hW.1 (q := (RJ4, TJ4, 4)) (ci := 1) rfl (q0 := 0) rfl) hW hA hl rfl ⟨by decide, by decide⟩ (Nat.le_of_ble_eq_true rfl)) E hW hA (fun r u H locs hp hW => ?_)
  subst hp
  have hc1 : cap + max (q - cap) (cap + 2) ≤ 602 ∧ cap < cap + max (q - cap) (cap + 2) ∧ q ≤ cap + max (q - cap) (cap + 2) := by omega
  generalize cap + max (q - cap) (cap + 2) = c1 at hc1 ⊢
  have hW : WD k A s.heap ([(a, .inr (1, [.ref v, .int 0, .int ml, .int (nI cnt)]))] ++ [(v, .inl (k.2.1.1 2, cap, .inl f))]) H locs := hW
  refine k_aload_n E hl 1 dJ5_ensureCapacityInternal_d00df_27 rfl ?_
  refine gf_J5_22 E hW 0 rfl rfl dJ5_ensureCapacityInternal_d00df_28 ?_
  refine lv_ishl E.hx E.hb dJ5_ensureCapacityInternal_d00df_31 ?_
  refine k_topi (y := (nI c1)) (sb_shl0 _).symm ?_
  refine k_finw (X := [(a, .inr (1, [.ref v, .int 0, .int ml, .int (nI cnt)]))]) (k_rS (X := [(a, .inr (1, [.ref v, .int 0, .int ml, .int (nI cnt)]))]) (As := [.ref v, .int (nI c1)]) (rest := [.ref a]) (c_copyOf l k v cap c1 f hf hc1.2.1 (by omega)) E sl_J5_108 dJ5_ensureCapacityInternal_d00df_32 hW hA hl rfl ⟨by decide, by decide⟩ ⟨by decide, (by show _ ≤ 700; omega)⟩ (Nat.le_of_ble_eq_true rfl)) E hW hA (fun r v1 H locs hp hW => ?_)
  subst hp
  refine pf_J5_15 (ws2 := [(a, .inr (1, [.ref r, .int 0, .int ml, .int (nI cnt)])), (v, .inl (k.2.1.1 2, cap, .inl f)), (r, .inl (k.2.1.1 2, c1, .inl (va_cpy f (fun _ => 0) 0 0 cap)))]) E hW 0 rfl rfl rfl (Nat.le_of_ble_eq_true rfl) dJ5_ensureCapacityInternal_d00df_35 rfl (fun H locs hW => ?_)
  exact hret (r, c1, va_cpy f (fun _ => 0) 0 0 cap) _ _ _ _ _ _ (hW.sub [0, 2] rfl rfl rfl) ⟨hc1.2.2, Nat.le_of_lt hc1.2.1, hc1.1, sb_fitC hf sb_fit0, fun j hj => show va_cpy f (fun _ => 0) 0 0 cap j = f j from sb_cpy0 hj⟩ (by first | decide | exact Nat.le_of_ble_eq_true rfl | exact Nat.le_refl _ | (simp; omega) | simp | omega) (by first | omega | (show _ ≤ 700; omega)) dJ5_ensureCapacityInternal_d00df_38

theorem dJ5_isLatin1_aae02_0 : decode cJ5_isLatin1_aae02 0 = .ok (.getstatic 18, 3) := by decide +kernel
theorem dJ5_isLatin1_aae02_3 : decode cJ5_isLatin1_aae02 3 = .ok (.ifCond .eq 14, 3) := by decide +kernel
theorem dJ5_isLatin1_aae02_6 : decode cJ5_isLatin1_aae02 6 = .ok (.aload_n 0, 1) := by decide +kernel
theorem dJ5_isLatin1_aae02_7 : decode cJ5_isLatin1_aae02 7 = .ok (.getfield 22, 3) := by decide +kernel
theorem dJ5_isLatin1_aae02_10 : decode cJ5_isLatin1_aae02 10 = .ok (.ifCond .ne 7, 3) := by decide +kernel
theorem dJ5_isLatin1_aae02_13 : decode cJ5_isLatin1_aae02 13 = .ok (.iconst 1, 1) := by decide +kernel
theorem dJ5_isLatin1_aae02_14 : decode cJ5_isLatin1_aae02 14 = .ok (.goto 4, 3) := by decide +kernel
theorem dJ5_isLatin1_aae02_17 : decode cJ5_isLatin1_aae02 17 = .ok (.iconst 0, 1) := by decide +kernel
theorem dJ5_isLatin1_aae02_18 : decode cJ5_isLatin1_aae02 18 = .ok (.ireturn, 1) := by decide +kernel
set_option maxHeartbeats 4000000 in
set_option maxRecDepth 100000 in
theorem c_isL (l : Launch) (k : KT) (hE : EH k) (a v cap cnt : Nat) (ml : Int32) (f : Nat → Int32) : CG l k yJ5_isLatin1_aae02 cJ5_isLatin1_aae02 1 (some .boolean) 0 0 0 0 [.ref a] (wSB k a v cap ml cnt f) (Qi k (fun u : Unit => wSB k a v cap ml cnt f) (fun (r : Int32) (u : Unit) => (1 : Int32) = r)) := by
  refine CG.ofI (by decide) (Nat.le_of_ble_eq_true rfl) (fun p e s m args below meth c A Q E hnm hW hA hret ls hl => ?_)
  have hl : lv_has ls 1 [(0, .ref a)] := hl
  refine va_gets E.hx E.hb (hE.at E).2.2.2.2.2.2.2.2.2.2.2.2.1 hW.2.2 E.ho (E.w tm_955 rfl) (fun _ h => h) dJ5_isLatin1_aae02_0 ?_
  refine lv_if_eq (tgt := 17) E.hx E.hb dJ5_isLatin1_aae02_3 (by decide) (fun hc => absurd hc (by decide)) (fun hc => ?_)
  refine k_aload_n E hl 0 dJ5_isLatin1_aae02_6 rfl ?_
  refine gf_J5_22 E hW 0 rfl rfl dJ5_isLatin1_aae02_7 ?_
  refine lv_if_ne (tgt := 17) E.hx E.hb dJ5_isLatin1_aae02_10 (by decide) (fun hc => absurd rfl hc) (fun hc => ?_)
  refine lv_iconst (v := (1 : Int32)) E.hx E.hb dJ5_isLatin1_aae02_13 ic_1 ?_
  refine lv_goto (tgt := 18) E.hx E.hb dJ5_isLatin1_aae02_14 (by decide) ?_
  exact hret _ () _ _ _ _ _ _ hW rfl (by decide) (by decide) (by decide) dJ5_isLatin1_aae02_18

theorem dJ1_canEncode_fc78d_0 : decode cJ1_canEncode_fc78d 0 = .ok (.iload_n 0, 1) := by decide +kernel
theorem dJ1_canEncode_fc78d_1 : decode cJ1_canEncode_fc78d 1 = .ok (.sipush 255, 3) := by decide +kernel
theorem dJ1_canEncode_fc78d_4 : decode cJ1_canEncode_fc78d 4 = .ok (.if_icmp .gt 7, 3) := by decide +kernel
theorem dJ1_canEncode_fc78d_7 : decode cJ1_canEncode_fc78d 7 = .ok (.iconst 1, 1) := by decide +kernel
theorem dJ1_canEncode_fc78d_8 : decode cJ1_canEncode_fc78d 8 = .ok (.goto 4, 3) := by decide +kernel
theorem dJ1_canEncode_fc78d_11 : decode cJ1_canEncode_fc78d 11 = .ok (.iconst 0, 1) := by decide +kernel
theorem dJ1_canEncode_fc78d_12 : decode cJ1_canEncode_fc78d 12 = .ok (.ireturn, 1) := by decide +kernel
set_option maxHeartbeats 4000000 in
set_option maxRecDepth 100000 in
theorem c_enc (l : Launch) (k : KT) (ch : Nat) (hch : ch < 256) : CG l k yJ1_canEncode_fc78d cJ1_canEncode_fc78d 1 (some .boolean) 0 0 0 0 [.int (nI ch)] ([]) (Qi k (fun u : Unit => []) (fun (r : Int32) (u : Unit) => (1 : Int32) = r)) := by
  refine CG.ofI (by decide) (Nat.le_of_ble_eq_true rfl) (fun p e s m args below meth c A Q E hnm hW hA hret ls hl => ?_)
  have hl : lv_has ls 1 [(0, .int (nI ch))] := hl
  refine k_iload_n E hl 0 dJ1_canEncode_fc78d_0 rfl ?_
  refine lv_sipush (v := (255 : Int32)) E.hx E.hb dJ1_canEncode_fc78d_1 sp_255 ?_
  refine lv_icmp_gt (tgt := 11) E.hx E.hb dJ1_canEncode_fc78d_4 (by decide) (fun hc => absurd hc (nI_nlt (b := ch) (a := 255) (by omega) (by decide))) (fun hc => ?_)
  refine lv_iconst (v := (1 : Int32)) E.hx E.hb dJ1_canEncode_fc78d_7 ic_1 ?_
  refine lv_goto (tgt := 12) E.hx E.hb dJ1_canEncode_fc78d_8 (by decide) ?_
  exact hret _ () _ _ _ _ _ _ hW rfl (by decide) (by decide) (by decide) dJ1_canEncode_fc78d_12

theorem dJ5_append_3fe6f_0 : decode cJ5_append_3fe6f 0 = .ok (.aload_n 0, 1) := by decide +kernel
theorem dJ5_append_3fe6f_1 : decode cJ5_append_3fe6f 1 = .ok (.aload_n 0, 1) := by decide +kernel
theorem dJ5_append_3fe6f_2 : decode cJ5_append_3fe6f 2 = .ok (.getfield 79, 3) := by decide +kernel
theorem dJ5_append_3fe6f_5 : decode cJ5_append_3fe6f 5 = .ok (.iconst 1, 1) := by decide +kernel
theorem dJ5_append_3fe6f_6 : decode cJ5_append_3fe6f 6 = .ok (.iadd, 1) := by decide +kernel
theorem dJ5_append_3fe6f_7 : decode cJ5_append_3fe6f 7 = .ok (.invokevirtual 100, 3) := by decide +kernel
theorem dJ5_append_3fe6f_10 : decode cJ5_append_3fe6f 10 = .ok (.aload_n 0, 1) := by decide +kernel
theorem dJ5_append_3fe6f_11 : decode cJ5_append_3fe6f 11 = .ok (.invokevirtual 83, 3) := by decide +kernel
theorem dJ5_append_3fe6f_14 : decode cJ5_append_3fe6f 14 = .ok (.ifCond .eq 31, 3) := by decide +kernel
theorem dJ5_append_3fe6f_17 : decode cJ5_append_3fe6f 17 = .ok (.iload_n 1, 1) := by decide +kernel
theorem dJ5_append_3fe6f_18 : decode cJ5_append_3fe6f 18 = .ok (.invokestatic 191, 3) := by decide +kernel
theorem dJ5_append_3fe6f_21 : decode cJ5_append_3fe6f 21 = .ok (.ifCond .eq 24, 3) := by decide +kernel
theorem dJ5_append_3fe6f_24 : decode cJ5_append_3fe6f 24 = .ok (.aload_n 0, 1) := by decide +kernel
theorem dJ5_append_3fe6f_25 : decode cJ5_append_3fe6f 25 = .ok (.getfield 15, 3) := by decide +kernel
theorem dJ5_append_3fe6f_28 : decode cJ5_append_3fe6f 28 = .ok (.aload_n 0, 1) := by decide +kernel
theorem dJ5_append_3fe6f_29 : decode cJ5_append_3fe6f 29 = .ok (.dup, 1) := by decide +kernel
theorem dJ5_append_3fe6f_30 : decode cJ5_append_3fe6f 30 = .ok (.getfield 79, 3) := by decide +kernel
theorem dJ5_append_3fe6f_33 : decode cJ5_append_3fe6f 33 = .ok (.dup_x1, 1) := by decide +kernel
theorem dJ5_append_3fe6f_34 : decode cJ5_append_3fe6f 34 = .ok (.iconst 1, 1) := by decide +kernel
theorem dJ5_append_3fe6f_35 : decode cJ5_append_3fe6f 35 = .ok (.iadd, 1) := by decide +kernel
theorem dJ5_append_3fe6f_36 : decode cJ5_append_3fe6f 36 = .ok (.putfield 79, 3) := by decide +kernel
theorem dJ5_append_3fe6f_39 : decode cJ5_append_3fe6f 39 = .ok (.iload_n 1, 1) := by decide +kernel
theorem dJ5_append_3fe6f_40 : decode cJ5_append_3fe6f 40 = .ok (.i2b, 1) := by decide +kernel
theorem dJ5_append_3fe6f_41 : decode cJ5_append_3fe6f 41 = .ok (.bastore, 1) := by decide +kernel
theorem dJ5_append_3fe6f_42 : decode cJ5_append_3fe6f 42 = .ok (.goto 33, 3) := by decide +kernel
theorem dJ5_append_3fe6f_45 : decode cJ5_append_3fe6f 45 = .ok (.aload_n 0, 1) := by decide +kernel
theorem dJ5_append_3fe6f_46 : decode cJ5_append_3fe6f 46 = .ok (.invokevirtual 83, 3) := by decide +kernel
theorem dJ5_append_3fe6f_49 : decode cJ5_append_3fe6f 49 = .ok (.ifCond .eq 7, 3) := by decide +kernel
theorem dJ5_append_3fe6f_52 : decode cJ5_append_3fe6f 52 = .ok (.aload_n 0, 1) := by decide +kernel
theorem dJ5_append_3fe6f_53 : decode cJ5_append_3fe6f 53 = .ok (.invokevirtual 195, 3) := by decide +kernel
theorem dJ5_append_3fe6f_56 : decode cJ5_append_3fe6f 56 = .ok (.aload_n 0, 1) := by decide +kernel
theorem dJ5_append_3fe6f_57 : decode cJ5_append_3fe6f 57 = .ok (.getfield 15, 3) := by decide +kernel
theorem dJ5_append_3fe6f_60 : decode cJ5_append_3fe6f 60 = .ok (.aload_n 0, 1) := by decide +kernel
theorem dJ5_append_3fe6f_61 : decode cJ5_append_3fe6f 61 = .ok (.dup, 1) := by decide +kernel
theorem dJ5_append_3fe6f_62 : decode cJ5_append_3fe6f 62 = .ok (.getfield 79, 3) := by decide +kernel
theorem dJ5_append_3fe6f_65 : decode cJ5_append_3fe6f 65 = .ok (.dup_x1, 1) := by decide +kernel
theorem dJ5_append_3fe6f_66 : decode cJ5_append_3fe6f 66 = .ok (.iconst 1, 1) := by decide +kernel
theorem dJ5_append_3fe6f_67 : decode cJ5_append_3fe6f 67 = .ok (.iadd, 1) := by decide +kernel
theorem dJ5_append_3fe6f_68 : decode cJ5_append_3fe6f 68 = .ok (.putfield 79, 3) := by decide +kernel
theorem dJ5_append_3fe6f_71 : decode cJ5_append_3fe6f 71 = .ok (.iload_n 1, 1) := by decide +kernel
theorem dJ5_append_3fe6f_72 : decode cJ5_append_3fe6f 72 = .ok (.invokestatic 197, 3) := by decide +kernel
theorem dJ5_append_3fe6f_75 : decode cJ5_append_3fe6f 75 = .ok (.aload_n 0, 1) := by decide +kernel
theorem dJ5_append_3fe6f_76 : decode cJ5_append_3fe6f 76 = .ok (.areturn, 1) := by decide +kernel
set_option maxHeartbeats 4000000 in
set_option maxRecDepth 100000 in
theorem c_apC5 (l : Launch) (k : KT) (hE : EH k) (t : Nat → Nat) (a v cap cnt : Nat) (ml : Int32) (f : Nat → Int32) (hS : SBo t cnt cap f) (ch : Nat) (hch : ch < 256) (hq : cnt + 1 ≤ 300) : CG l k yJ5_append_3fe6f cJ5_append_3fe6f 2 (some (.object "java/lang/AbstractStringBuilder")) 4 1 700 92 [.ref a, .int (nI ch)] (wSB k a v cap ml cnt f) (Qw k (fun u : Nat × Nat × (Nat → Int32) => wSB k a u.1 u.2.1 ml (cnt + 1) u.2.2) (fun (r : Nat) (u : Nat × Nat × (Nat → Int32)) => r = a ∧ SBo (sb_cat t cnt (fun _ => ch)) (cnt + 1) u.2.1 u.2.2)) := by
  refine CG.ofW (by decide) (Nat.le_of_ble_eq_true rfl) (fun p e s m args below meth c A Q E hnm hW hA hret ls hl => ?_)
  have hl : lv_has ls 2 [(0, .ref a), (1, .int (nI ch))] := hl
  refine k_aload_n E hl 0 dJ5_append_3fe6f_0 rfl ?_
  refine k_aload_n E hl 0 dJ5_append_3fe6f_1 rfl ?_
  refine gf_J5_79 E hW 0 rfl rfl dJ5_append_3fe6f_2 ?_
  refine lv_iconst (v := (1 : Int32)) E.hx E.hb dJ5_append_3fe6f_5 ic_1 ?_
  refine lv_iadd E.hx E.hb dJ5_append_3fe6f_6 ?_
  refine k_topi (y := (nI (cnt + 1))) ((nI_add cnt 1).symm) ?_
  refine k_finv (X := []) (k_rV (X := []) (As := [.int (nI (cnt + 1))]) (rest := []) (c_ens l k hE a v cap cnt (cnt + 1) ml f hS.2.2.2 (by omega) hS.2.1) E (jp_J5_100.cw hE E ⟨by decide, by decide⟩) dJ5_append_3fe6f_7 (va_recv E.hK hW.1 (q := (RJ4, TJ4, 4)) (ci := 1) rfl (q0 := 0) rfl) hW hA hl rfl ⟨by decide, by decide⟩ (Nat.le_of_ble_eq_true rfl)) E hW hA (fun u H locs hp hW => ?_)
  obtain ⟨v1, cap1, f1⟩ := u
  obtain ⟨g1, g2, g3, g4, g5⟩ := hp
  dsimp only at g1 g2 g3 g4 g5
  have hW : WD k A s.heap (wSB k a v1 cap1 ml cnt f1) H locs := hW
  refine k_aload_n E hl 0 dJ5_append_3fe6f_10 rfl ?_
  refine k_fini (X := []) (k_rV (X := []) (As := []) (rest := []) (c_isL l k hE a v1 cap1 cnt ml f1) E (ji_J5_83.cw E ⟨by decide, by decide⟩) dJ5_append_3fe6f_11 (va_recv E.hK hW.1 (q := (RJ4, TJ4, 4)) (ci := 1) rfl (q0 := 0) rfl) hW hA hl rfl ⟨by decide, by decide⟩ (Nat.le_of_ble_eq_true rfl)) E hW hA (fun r u H locs hp hW => ?_)
  subst hp
  have hW : WD k A s.heap (wSB k a v1 cap1 ml cnt f1) H locs := hW
  refine lv_if_eq (tgt := 45) E.hx E.hb dJ5_append_3fe6f_14 (by decide) (fun hc => absurd hc (by decide)) (fun hc => ?_)
  refine k_iload_n E hl 1 dJ5_append_3fe6f_17 rfl ?_
  refine k_fini (X := wSB k a v1 cap1 ml cnt f1) (k_rS (X := wSB k a v1 cap1 ml cnt f1) (As := [.int (nI ch)]) (rest := []) (c_enc l k ch hch) E sl_J5_191 dJ5_append_3fe6f_18 hW hA hl rfl ⟨by decide, by decide⟩ ⟨by decide, by decide⟩ (Nat.le_of_ble_eq_true rfl)) E hW hA (fun r u H locs hp hW => ?_)
  subst hp
  have hW : WD k A s.heap (wSB k a v1 cap1 ml cnt f1) H locs := by rw [List.append_nil] at hW; exact hW
  refine lv_if_eq (tgt := 45) E.hx E.hb dJ5_append_3fe6f_21 (by decide) (fun hc => absurd hc (by decide)) (fun hc => ?_)
  refine k_aload_n E hl 0 dJ5_append_3fe6f_24 rfl ?_
  refine gf_J5_15 E hW 0 rfl rfl dJ5_append_3fe6f_25 ?_
  refine k_aload_n E hl 0 dJ5_append_3fe6f_28 rfl ?_
  refine lv_dup E.hx E.hb dJ5_append_3fe6f_29 rfl ?_
  refine gf_J5_79 E hW 0 rfl rfl dJ5_append_3fe6f_30 ?_
  refine lv_dup_x1 E.hx E.hb dJ5_append_3fe6f_33 rfl rfl ?_
  refine lv_iconst (v := (1 : Int32)) E.hx E.hb dJ5_append_3fe6f_34 ic_1 ?_
  refine lv_iadd E.hx E.hb dJ5_append_3fe6f_35 ?_
  refine k_topi (y := (nI (cnt + 1))) ((nI_add cnt 1).symm) ?_
  refine pf_J5_79 (ws2 := wSB k a v1 cap1 ml (cnt + 1) f1) E hW 0 rfl rfl rfl (Nat.le_of_ble_eq_true rfl) dJ5_append_3fe6f_36 rfl (fun H locs hW => ?_)
  refine k_iload_n E hl 1 dJ5_append_3fe6f_39 rfl ?_
  refine lv_i2b (v := sb_b ch) E.hx E.hb dJ5_append_3fe6f_40 rfl ?_
  refine k_bast (ws2 := wSB k a v1 cap1 ml (cnt + 1) (upd f1 cnt (sb_b ch))) E hW 1 rfl (vp_in_nI (by omega) (by omega)) dJ5_append_3fe6f_41 (by rw [nI_clamp (by omega), sx_narB]; rfl) (fun H locs hW => ?_)
  refine lv_goto (tgt := 75) E.hx E.hb dJ5_append_3fe6f_42 (by decide) ?_
  refine k_aload_n E hl 0 dJ5_append_3fe6f_75 rfl ?_
  exact hret a (v1, cap1, upd f1 cnt (sb_b ch)) _ _ _ _ _ _ hW ⟨rfl, sbo_put hS g1 g3 g4 g5 hch⟩ (by decide) (by decide) dJ5_append_3fe6f_76
