theorem tm_782 : (Jvm.Cond.laysStatic "MemoryCourt$Word" "ALL" "[LMemoryCourt$Word;") ∈ lw_tbl := List.mem_of_getElem? (i := 782) (by decide +kernel)
theorem tm_811 : (Jvm.Cond.laysStatic "MemoryCourt$1" "$SwitchMap$MemoryCourt$Word" "[I") ∈ lw_tbl := List.mem_of_getElem? (i := 811) (by decide +kernel)
theorem tm_54 : (Jvm.Cond.initialized "MemoryCourt$1") ∈ lw_tbl := List.mem_of_getElem? (i := 54) (by decide +kernel)
theorem tm_703 : (Jvm.Cond.laysStatic "java/lang/String" "COMPACT_STRINGS" "Z") ∈ lw_tbl := List.mem_of_getElem? (i := 703) (by decide +kernel)
theorem tm_719 : (Jvm.Cond.laysStatic "jdk/internal/util/Preconditions" "SIOOBE_FORMATTER" "Ljava/util/function/BiFunction;") ∈ lw_tbl := List.mem_of_getElem? (i := 719) (by decide +kernel)
theorem tm_1030 : (Jvm.Cond.laysStatic "java/lang/Integer" "DigitOnes" "[B") ∈ lw_tbl := List.mem_of_getElem? (i := 1030) (by decide +kernel)
theorem tm_1032 : (Jvm.Cond.laysStatic "java/lang/Integer" "DigitTens" "[B") ∈ lw_tbl := List.mem_of_getElem? (i := 1032) (by decide +kernel)
theorem tm_923 : (Jvm.Cond.privateMethod ({ cls := "java/lang/AbstractStringBuilder", name := "ensureCapacityInternal", desc := "(I)V" } : Jvm.MethodName)) ∈ lw_tbl := List.mem_of_getElem? (i := 923) (by decide +kernel)
theorem tm_927 : (Jvm.Cond.privateMethod ({ cls := "java/lang/AbstractStringBuilder", name := "newCapacity", desc := "(I)I" } : Jvm.MethodName)) ∈ lw_tbl := List.mem_of_getElem? (i := 927) (by decide +kernel)
theorem tm_972 : (Jvm.Cond.privateMethod ({ cls := "java/lang/AbstractStringBuilder", name := "putStringAt", desc := "(ILjava/lang/String;)V" } : Jvm.MethodName)) ∈ lw_tbl := List.mem_of_getElem? (i := 972) (by decide +kernel)
theorem tm_976 : (Jvm.Cond.privateMethod ({ cls := "java/lang/AbstractStringBuilder", name := "inflateIfNeededFor", desc := "(Ljava/lang/String;)V" } : Jvm.MethodName)) ∈ lw_tbl := List.mem_of_getElem? (i := 976) (by decide +kernel)
/-! what the statics hold, at the start -/
def sIdxL : List Nat := [104, 110, 113, 116, 119, 122, 125, 128, 131, 134, 137, 140, 143, 146]
def sTm (i : Nat) : Term := if i < 14 then .string RX7 (sIdxL.getD i 0) else .string RL (lIdxL.getD (i - 15) 0)
theorem sTm_l (i : Nat) : sTm (15 + i) = .string RL (lIdxL.getD i 0) := by
  unfold sTm
  rw [if_neg (by omega), Nat.add_sub_cancel_left]
theorem sTm_w {i : Nat} (hi : i < 14) : sTm i = .string RX7 (sIdxL.getD i 0) := if_pos hi
def wTm (i : Nat) : Term := .static RX7 (wNameL.getD i "") "LMemoryCourt$Word;"
def GF : List Cond := flatC (Jvm.Cond.and given_1 narrow_1)
def gI_ex : List Nat := [4, 11, 323, 19, 28, 38, 49, 61, 337, 352, 368, 385, 403, 422]
theorem gW_ex : ∀ i, i < 14 → GF[gI_ex.getD i 0]? = some (Cond.exactly (wTm i) RX7) := by decide +kernel
theorem g_ex : ∀ i, i < 14 → Cond.exactly (wTm i) RX7 ∈ GF := fun i hi => List.mem_of_getElem? (gW_ex i hi)
def gI_lay : List Nat := [229, 288, 1241, 294, 296, 298, 300, 302, 1242, 1243, 1244, 1245, 1246, 1247]
theorem gW_lay : ∀ i, i < 14 → lw_tbl[gI_lay.getD i 0]? = some (Cond.laysStatic RX7 (wNameL.getD i "") "LMemoryCourt$Word;") := by decide +kernel
theorem g_lay : ∀ i, i < 14 → Cond.laysStatic RX7 (wNameL.getD i "") "LMemoryCourt$Word;" ∈ lw_tbl := fun i hi => List.mem_of_getElem? (gW_lay i hi)
def gI_bit : List Nat := [7, 14, 326, 22, 31, 41, 52, 64, 340, 355, 371, 388, 406, 425]
theorem gW_bit : ∀ i, i < 14 → GF[gI_bit.getD i 0]? = some (Cond.eq (.field (wTm i) RX7 "bit" "I") (.int (wBitL.getD i 0))) := by decide +kernel
theorem g_bit : ∀ i, i < 14 → Cond.eq (.field (wTm i) RX7 "bit" "I") (.int (wBitL.getD i 0)) ∈ GF := fun i hi => List.mem_of_getElem? (gW_bit i hi)
def gI_low : List Nat := [8, 15, 327, 23, 32, 42, 53, 65, 341, 356, 372, 389, 407, 426]
theorem gW_low : ∀ i, i < 14 → GF[gI_low.getD i 0]? = some (Cond.eq (.field (wTm i) RX7 "low" "I") (.int (wLowL.getD i 0))) := by decide +kernel
theorem g_low : ∀ i, i < 14 → Cond.eq (.field (wTm i) RX7 "low" "I") (.int (wLowL.getD i 0)) ∈ GF := fun i hi => List.mem_of_getElem? (gW_low i hi)
def gI_high : List Nat := [9, 16, 328, 24, 33, 43, 54, 66, 342, 357, 373, 390, 408, 427]
theorem gW_high : ∀ i, i < 14 → GF[gI_high.getD i 0]? = some (Cond.eq (.field (wTm i) RX7 "high" "I") (.int (wHighL.getD i 0))) := by decide +kernel
theorem g_high : ∀ i, i < 14 → Cond.eq (.field (wTm i) RX7 "high" "I") (.int (wHighL.getD i 0)) ∈ GF := fun i hi => List.mem_of_getElem? (gW_high i hi)
def gI_usual : List Nat := [10, 17, 329, 25, 34, 44, 55, 67, 343, 358, 374, 391, 409, 428]
theorem gW_usual : ∀ i, i < 14 → GF[gI_usual.getD i 0]? = some (Cond.eq (.field (wTm i) RX7 "usual" "I") (.int (wUsualL.getD i 0))) := by decide +kernel
theorem g_usual : ∀ i, i < 14 → Cond.eq (.field (wTm i) RX7 "usual" "I") (.int (wUsualL.getD i 0)) ∈ GF := fun i hi => List.mem_of_getElem? (gW_usual i hi)
def gI_ord : List Nat := [5, 12, 324, 20, 29, 39, 50, 62, 338, 353, 369, 386, 404, 423]
theorem gW_ord : ∀ i, i < 14 → GF[gI_ord.getD i 0]? = some (Cond.eq (.field (wTm i) "java/lang/Enum" "ordinal" "I") (.int (nI i))) := by decide +kernel
theorem g_ord : ∀ i, i < 14 → Cond.eq (.field (wTm i) "java/lang/Enum" "ordinal" "I") (.int (nI i)) ∈ GF := fun i hi => List.mem_of_getElem? (gW_ord i hi)
def gI_text : List Nat := [6, 13, 325, 21, 30, 40, 51, 63, 339, 354, 370, 387, 405, 424]
theorem gW_text : ∀ i, i < 14 → GF[gI_text.getD i 0]? = some (Cond.eq (.field (wTm i) RX7 "text" "Ljava/lang/String;") (sTm i)) := by decide +kernel
theorem g_text : ∀ i, i < 14 → Cond.eq (.field (wTm i) RX7 "text" "Ljava/lang/String;") (sTm i) ∈ GF := fun i hi => List.mem_of_getElem? (gW_text i hi)
def gI_all : List Nat := [86, 87, 88, 89, 90, 91, 92, 93, 94, 95, 96, 97, 98, 99]
theorem gW_all : ∀ i, i < 14 → GF[gI_all.getD i 0]? = some (Cond.eq (.elem (.static RX7 "ALL" "[LMemoryCourt$Word;") (.int (Int32.ofNat i))) (wTm i)) := by decide +kernel
theorem g_all : ∀ i, i < 14 → Cond.eq (.elem (.static RX7 "ALL" "[LMemoryCourt$Word;") (.int (Int32.ofNat i))) (wTm i) ∈ GF := fun i hi => List.mem_of_getElem? (gW_all i hi)
def gI_map : List Nat := [103, 104, 105, 106, 107, 108, 109, 110, 111, 112, 113, 114, 115, 116]
theorem gW_map : ∀ i, i < 14 → GF[gI_map.getD i 0]? = some (Cond.eq (.elem (.static RX0 "$SwitchMap$MemoryCourt$Word" "[I") (.int (Int32.ofNat i))) (.int (wMapL.getD i 0))) := by decide +kernel
theorem g_map : ∀ i, i < 14 → Cond.eq (.elem (.static RX0 "$SwitchMap$MemoryCourt$Word" "[I") (.int (Int32.ofNat i))) (.int (wMapL.getD i 0)) ∈ GF := fun i hi => List.mem_of_getElem? (gW_map i hi)
def gI_ne : List (List Nat) := [[0, 18, 330, 26, 35, 45, 56, 68, 344, 359, 375, 392, 410, 429], [18, 0, 331, 27, 36, 46, 57, 69, 345, 360, 376, 393, 411, 430], [330, 331, 0, 332, 333, 334, 335, 336, 351, 366, 382, 399, 417, 436], [26, 27, 332, 0, 37, 47, 58, 70, 346, 361, 377, 394, 412, 431], [35, 36, 333, 37, 0, 48, 59, 71, 347, 362, 378, 395, 413, 432], [45, 46, 334, 47, 48, 0, 60, 72, 348, 363, 379, 396, 414, 433], [56, 57, 335, 58, 59, 60, 0, 73, 349, 364, 380, 397, 415, 434], [68, 69, 336, 70, 71, 72, 73, 0, 350, 365, 381, 398, 416, 435], [344, 345, 351, 346, 347, 348, 349, 350, 0, 367, 383, 400, 418, 437], [359, 360, 366, 361, 362, 363, 364, 365, 367, 0, 384, 401, 419, 438], [375, 376, 382, 377, 378, 379, 380, 381, 383, 384, 0, 402, 420, 439], [392, 393, 399, 394, 395, 396, 397, 398, 400, 401, 402, 0, 421, 440], [410, 411, 417, 412, 413, 414, 415, 416, 418, 419, 420, 421, 0, 441], [429, 430, 436, 431, 432, 433, 434, 435, 437, 438, 439, 440, 441, 0]]
theorem gW_ne : ∀ i, i < 14 → ∀ j, j < 14 → i ≠ j → (GF[(gI_ne.getD i []).getD j 0]? = some (Cond.not (.eq (wTm i) (wTm j))) ∨ GF[(gI_ne.getD i []).getD j 0]? = some (Cond.not (.eq (wTm j) (wTm i)))) := by decide +kernel
theorem g_ne : ∀ i, i < 14 → ∀ j, j < 14 → i ≠ j → (Cond.not (.eq (wTm i) (wTm j)) ∈ GF ∨ Cond.not (.eq (wTm j) (wTm i)) ∈ GF) := fun i hi j hj h => (gW_ne i hi j hj h).imp List.mem_of_getElem? List.mem_of_getElem?
def sI_ex : List Nat := [1027, 1031, 1087, 1040, 1049, 1057, 1065, 1077, 1098, 1107, 1116, 1125, 1134, 1142, 0, 738, 748, 760, 770, 780, 790, 804, 816, 832, 848]
theorem sW_ex : ∀ i, i < 25 → i ≠ 14 → GF[sI_ex.getD i 0]? = some (Cond.exactly (sTm i) "java/lang/String") := by decide +kernel
theorem s_ex : ∀ i, i < 25 → i ≠ 14 → Cond.exactly (sTm i) "java/lang/String" ∈ GF := fun i hi h => List.mem_of_getElem? (sW_ex i hi h)
def sI_co : List Nat := [1028, 1032, 1088, 1041, 1050, 1058, 1066, 1078, 1099, 1108, 1117, 1126, 1135, 1143, 0, 739, 749, 761, 771, 781, 791, 805, 817, 833, 849]
theorem sW_co : ∀ i, i < 25 → i ≠ 14 → GF[sI_co.getD i 0]? = some (Cond.eq (.field (sTm i) "java/lang/String" "coder" "B") (.int 0)) := by decide +kernel
theorem s_co : ∀ i, i < 25 → i ≠ 14 → Cond.eq (.field (sTm i) "java/lang/String" "coder" "B") (.int 0) ∈ GF := fun i hi h => List.mem_of_getElem? (sW_co i hi h)
def sI_ar : List Nat := [1029, 1033, 1089, 1042, 1051, 1059, 1067, 1079, 1100, 1109, 1118, 1127, 1136, 1144, 0, 740, 750, 762, 772, 782, 792, 806, 818, 834, 850]
theorem sW_ar : ∀ i, i < 25 → i ≠ 14 → GF[sI_ar.getD i 0]? = some (Cond.arrayOf (.field (sTm i) "java/lang/String" "value" "[B") .byte) := by decide +kernel
theorem s_ar : ∀ i, i < 25 → i ≠ 14 → Cond.arrayOf (.field (sTm i) "java/lang/String" "value" "[B") .byte ∈ GF := fun i hi h => List.mem_of_getElem? (sW_ar i hi h)
def sI_le : List Nat := [1030, 1034, 1090, 1043, 1052, 1060, 1068, 1080, 1101, 1110, 1119, 1128, 1137, 1145, 0, 741, 751, 763, 773, 783, 793, 807, 819, 835, 851]
theorem sW_le : ∀ i, i < 25 → i ≠ 14 → GF[sI_le.getD i 0]? = some (Cond.eq (.length (.field (sTm i) "java/lang/String" "value" "[B")) (.int (Int32.ofNat (sLenL.getD i 0)))) := by decide +kernel
theorem s_le : ∀ i, i < 25 → i ≠ 14 → Cond.eq (.length (.field (sTm i) "java/lang/String" "value" "[B")) (.int (Int32.ofNat (sLenL.getD i 0))) ∈ GF := fun i hi h => List.mem_of_getElem? (sW_le i hi h)
theorem s_lt : ∀ i, i < 25 → sLenL.getD i 0 < 2 ^ 31 := by decide +kernel
def sI_el : List (List Nat) := [[], [1035, 1036, 1037, 1038, 1039], [1091, 1092, 1093, 1094, 1095, 1096, 1097], [1044, 1045, 1046, 1047, 1048], [1053, 1054, 1055, 1056], [1061, 1062, 1063, 1064], [1069, 1070, 1071, 1072, 1073, 1074, 1075, 1076], [1081, 1082, 1083, 1084, 1085, 1086], [1102, 1103, 1104, 1105, 1106], [1111, 1112, 1113, 1114, 1115], [1120, 1121, 1122, 1123, 1124], [1129, 1130, 1131, 1132, 1133], [1138, 1139, 1140, 1141], [1146, 1147, 1148], [], [742, 743, 744, 745, 746, 747], [752, 753, 754, 755, 756, 757, 758, 759], [764, 765, 766, 767, 768, 769], [774, 775, 776, 777, 778, 779], [784, 785, 786, 787, 788, 789], [794, 795, 796, 797, 798, 799, 800, 801, 802, 803], [808, 809, 810, 811, 812, 813, 814, 815], [820, 821, 822, 823, 824, 825, 826, 827, 828, 829, 830, 831], [836, 837, 838, 839, 840, 841, 842, 843, 844, 845, 846, 847], [852, 853, 854, 855, 856, 857, 858, 859, 860, 861, 862, 863]]
theorem sW_el : ∀ i, i < 25 → i ≠ 14 → ∀ j, j < sLenL.getD i 0 → GF[(sI_el.getD i []).getD j 0]? = some (Cond.eq (.elem (.field (sTm i) "java/lang/String" "value" "[B") (.int (Int32.ofNat j))) (.int ((sBytL.getD i []).getD j 0))) := by decide +kernel
theorem s_el : ∀ i, i < 25 → i ≠ 14 → ∀ j, j < sLenL.getD i 0 → Cond.eq (.elem (.field (sTm i) "java/lang/String" "value" "[B") (.int (Int32.ofNat j))) (.int ((sBytL.getD i []).getD j 0)) ∈ GF := fun i hi h j hj => List.mem_of_getElem? (sW_el i hi h j hj)
def lI_tr : List Nat := [886, 1054, 1056, 1057, 1058, 1059, 1060, 1061, 1062, 1063]
theorem lW_tr : ∀ i, i < 10 → lw_tbl[lI_tr.getD i 0]? = some (Cond.stringRef RL (lIdxL.getD i 0) (sTextL.getD (15 + i) "")) := by decide +kernel
theorem l_tr : ∀ i, i < 10 → Cond.stringRef RL (lIdxL.getD i 0) (sTextL.getD (15 + i) "") ∈ lw_tbl := fun i hi => List.mem_of_getElem? (lW_tr i hi)
theorem dW_one : ∀ j, j < 100 → GF[120 + j]? = some (Cond.eq (.elem (.static "java/lang/Integer" "DigitOnes" "[B") (.int (Int32.ofNat j))) (.int (dgOne j))) := by decide +kernel
theorem dA_one : ((Jvm.Cond.arrayOf (Jvm.Term.static "java/lang/Integer" "DigitOnes" "[B") Jvm.ClassFile.FieldType.byte)) ∈ GF := List.mem_of_getElem? (i := 118) (by decide +kernel)
theorem dL_one : (Cond.eq (.length (.static "java/lang/Integer" "DigitOnes" "[B")) (.int (Int32.ofNat 100))) ∈ GF := List.mem_of_getElem? (i := 119) (by decide +kernel)
theorem dW_ten : ∀ j, j < 100 → GF[223 + j]? = some (Cond.eq (.elem (.static "java/lang/Integer" "DigitTens" "[B") (.int (Int32.ofNat j))) (.int (dgTen j))) := by decide +kernel
theorem dA_ten : ((Jvm.Cond.arrayOf (Jvm.Term.static "java/lang/Integer" "DigitTens" "[B") Jvm.ClassFile.FieldType.byte)) ∈ GF := List.mem_of_getElem? (i := 221) (by decide +kernel)
theorem dL_ten : (Cond.eq (.length (.static "java/lang/Integer" "DigitTens" "[B")) (.int (Int32.ofNat 100))) ∈ GF := List.mem_of_getElem? (i := 222) (by decide +kernel)
theorem a_ar : ((Jvm.Cond.arrayOf (Jvm.Term.static "MemoryCourt$Word" "ALL" "[LMemoryCourt$Word;") (Jvm.ClassFile.FieldType.object "MemoryCourt$Word"))) ∈ GF := List.mem_of_getElem? (i := 83) (by decide +kernel)
theorem a_le : (Cond.eq (.length (.static RX7 "ALL" "[LMemoryCourt$Word;")) (.int (Int32.ofNat 14))) ∈ GF := List.mem_of_getElem? (i := 84) (by decide +kernel)
theorem m_ar : ((Jvm.Cond.arrayOf (Jvm.Term.static "MemoryCourt$1" "$SwitchMap$MemoryCourt$Word" "[I") Jvm.ClassFile.FieldType.int)) ∈ GF := List.mem_of_getElem? (i := 101) (by decide +kernel)
theorem m_le : (Cond.eq (.length (.static RX0 "$SwitchMap$MemoryCourt$Word" "[I")) (.int (Int32.ofNat 14))) ∈ GF := List.mem_of_getElem? (i := 102) (by decide +kernel)
theorem c_str : ((Jvm.Cond.eq (Jvm.Term.static "java/lang/String" "COMPACT_STRINGS" "Z") (Jvm.Term.int (1 : Int32)))) ∈ GF := List.mem_of_getElem? (i := 76) (by decide +kernel)
theorem c_sio : ((Jvm.Cond.isRef (Jvm.Term.static "jdk/internal/util/Preconditions" "SIOOBE_FORMATTER" "Ljava/util/function/BiFunction;"))) ∈ GF := List.mem_of_getElem? (i := 77) (by decide +kernel)
section EXS
variable {args : Array Value} {s : State} {A : Nat → Prop}
theorem ex_ref {t : Term} {C : String} (h : (Cond.exactly t C).before args s = true) : ∃ a : Nat, t.eval args s none [] s = some (.ref a) := by
  obtain ⟨a, c, cA, kA, q1, -⟩ := Cond.exactly_spec (args := args) (first := s) (o := none) (s := s) (idx := []) (t := t) (cls := C) h
  exact ⟨a, q1⟩
theorem ex_esf (hts : ∀ w ∈ lw_tbl, w.before args s = true) (hgv : (Jvm.Cond.and given_1 narrow_1).before args s = true) (hA : ∀ a : Nat, a < s.heap.size → ¬ A a) : ∃ ad : Nat → Nat, ESF ad A s s.heap := by
  have hs : ∀ w ∈ GF, w.before args s = true := flat_of_before _ hgv
  have h1 : ∀ i : Nat, ∃ a : Nat, i < 14 → (wTm i).eval args s none [] s = some (.ref a) := fun i => by
    by_cases hi : i < 14
    · obtain ⟨a, ha⟩ := ex_ref (hs _ (g_ex i hi))
      exact ⟨a, fun _ => ha⟩
    · exact ⟨0, fun h => absurd h hi⟩
  obtain ⟨a0, h1⟩ := Classical.axiomOfChoice h1
  have h2 : ∀ i : Nat, ∃ q : Nat × Nat, i < 25 → i ≠ 14 → (sTm i).eval args s none [] s = some (.ref q.1) ∧ va_O "java/lang/String" q.1 A s s.heap ∧ va_OF "java/lang/String" "coder" "B" (.int 0) q.1 A s s.heap ∧ va_OF "java/lang/String" "value" "[B" (.ref q.2) q.1 A s s.heap ∧ va_T .byte q.2 (sLenL.getD i 0) (fun j => .int ((sBytL.getD i []).getD j 0)) A s s.heap := fun i => by
    by_cases hi : i < 25 ∧ i ≠ 14
    · obtain ⟨a, ha⟩ := ex_ref (hs _ (s_ex i hi.1 hi.2))
      obtain ⟨t, ht, hT⟩ := va_Tof (f := fun j => .int ((sBytL.getD i []).getD j 0)) (A := A) (s_lt i hi.1) (hs _ (s_ar i hi.1 hi.2)) (va_eqt (hs _ (s_le i hi.1 hi.2))) (fun j hj => va_eqt (hs _ (s_el i hi.1 hi.2 j hj))) hA
      exact ⟨(a, t), fun _ _ => ⟨ha, va_Oof (hs _ (s_ex i hi.1 hi.2)) ha hA, vk_OFof ha (va_eqt (hs _ (s_co i hi.1 hi.2))) hA, vk_OFof ha ht hA, hT⟩⟩
    · exact ⟨(0, 0), fun h h2 => absurd ⟨h, h2⟩ hi⟩
  obtain ⟨q, h2⟩ := Classical.axiomOfChoice h2
  obtain ⟨ad, e0, e1, e2⟩ : ∃ ad : Nat → Nat, (∀ i, i < 14 → ad i = a0 i) ∧ (∀ i, i < 25 → ad (20 + i) = (q i).1) ∧ (∀ i, i < 25 → ad (60 + i) = (q i).2) := by
    refine ⟨fun i => if i < 20 then a0 i else if i < 60 then (q (i - 20)).1 else (q (i - 60)).2, fun i hi => ?_, fun i hi => ?_, fun i hi => ?_⟩
    · exact if_pos (by omega)
    · show (if 20 + i < 20 then _ else _) = _
      rw [if_neg (by omega), if_pos (by omega), Nat.add_sub_cancel_left]
    · show (if 60 + i < 20 then _ else _) = _
      rw [if_neg (by omega), if_neg (by omega), Nat.add_sub_cancel_left]
  have H1 : ∀ i, i < 14 → (wTm i).eval args s none [] s = some (.ref (ad i)) := fun i hi => by rw [e0 i hi]; exact h1 i hi
  have H2 : ∀ i, i < 25 → i ≠ 14 → (sTm i).eval args s none [] s = some (.ref (ad (20 + i))) ∧ va_O "java/lang/String" (ad (20 + i)) A s s.heap ∧ va_OF "java/lang/String" "coder" "B" (.int 0) (ad (20 + i)) A s s.heap ∧ va_OF "java/lang/String" "value" "[B" (.ref (ad (60 + i))) (ad (20 + i)) A s s.heap ∧ va_T .byte (ad (60 + i)) (sLenL.getD i 0) (fun j => .int ((sBytL.getD i []).getD j 0)) A s s.heap := fun i hi h => by rw [e1 i hi, e2 i hi]; exact h2 i hi h
  have h7 : (Cond.initialized RX7).before args s = true := hts _ tm_41
  obtain ⟨t, ht, hT⟩ := va_Tof (tm := .static RX7 "ALL" "[LMemoryCourt$Word;") (ty := .object RX7) (N := 14) (f := fun i => .ref (ad i)) (A := A) (by decide) (hs _ a_ar) (va_eqt (hs _ a_le)) (fun j hj => va_eqv (hs _ (g_all j hj)) (H1 j hj)) hA
  obtain ⟨t2, ht2, hT2⟩ := va_Tof (tm := .static RX0 "$SwitchMap$MemoryCourt$Word" "[I") (ty := .int) (N := 14) (f := fun i => .int (wMapL.getD i 0)) (A := A) (by decide) (hs _ m_ar) (va_eqt (hs _ m_le)) (fun j hj => va_eqt (hs _ (g_map j hj))) hA
  refine ⟨ad, fun i hi => ⟨va_Zof (hts _ (g_lay i hi)) h7 (H1 i hi) hA, va_Oof (hs _ (g_ex i hi)) (H1 i hi) hA⟩, ?_, ?_, ?_, ?_, ?_, ?_, ⟨t, va_Zof (hts _ tm_782) h7 ht hA, hT⟩, ⟨t2, va_Zof (hts _ tm_811) (hts _ tm_54) ht2 hA, hT2⟩, fun i j hi hj e => ?_, fun i hi h => (H2 i hi h).2, fun i hi => ?_, ?_, ?_⟩
  · exact va_Efof (E := RX7) (d0 := "LMemoryCourt$Word;") (nm := wNameL) (tm := fun i => .int (wBitL.getD i 0)) H1 (fun i hi => hs _ (g_bit i hi)) (fun i _ => rfl) hA
  · exact va_Efof (E := RX7) (d0 := "LMemoryCourt$Word;") (nm := wNameL) (tm := fun i => .int (wLowL.getD i 0)) H1 (fun i hi => hs _ (g_low i hi)) (fun i _ => rfl) hA
  · exact va_Efof (E := RX7) (d0 := "LMemoryCourt$Word;") (nm := wNameL) (tm := fun i => .int (wHighL.getD i 0)) H1 (fun i hi => hs _ (g_high i hi)) (fun i _ => rfl) hA
  · exact va_Efof (E := RX7) (d0 := "LMemoryCourt$Word;") (nm := wNameL) (tm := fun i => .int (wUsualL.getD i 0)) H1 (fun i hi => hs _ (g_usual i hi)) (fun i _ => rfl) hA
  · exact va_Efof (E := RX7) (d0 := "LMemoryCourt$Word;") (nm := wNameL) (tm := fun i => .int (nI i)) H1 (fun i hi => hs _ (g_ord i hi)) (fun i _ => rfl) hA
  · exact va_Efof (E := RX7) (d0 := "LMemoryCourt$Word;") (nm := wNameL) (tm := sTm) H1 (fun i hi => hs _ (g_text i hi)) (fun i hi => (H2 i (by omega) (by omega)).1) hA
  · by_cases hij : i = j
    · exact hij
    · rcases g_ne i hi j hj hij with h | h
      · exact absurd e (va_neR (hs _ h) (H1 i hi) (H1 j hj))
      · exact absurd e.symm (va_neR (hs _ h) (H1 j hj) (H1 i hi))
  · have h := (H2 (15 + i) (by omega) (by omega)).1
    rw [sTm_l, show 20 + (15 + i) = 35 + i by omega] at h
    exact vk_R.of (hts _ (l_tr i hi)) h
  · exact va_Zof (hts _ tm_703) (hts _ tm_46) (va_eqt (hs _ c_str)) hA
  · exact va_Zqof (hts _ tm_719) (hts _ tm_50) (hs _ c_sio) hA
theorem ex_dig (hts : ∀ w ∈ lw_tbl, w.before args s = true) (hgv : (Jvm.Cond.and given_1 narrow_1).before args s = true) (hA : ∀ a : Nat, a < s.heap.size → ¬ A a) : DGP A s s.heap := by
  have hs : ∀ w ∈ GF, w.before args s = true := flat_of_before _ hgv
  obtain ⟨t, ht, hT⟩ := va_Tof (tm := .static "java/lang/Integer" "DigitOnes" "[B") (ty := .byte) (N := 100) (f := fun i => .int (dgOne i)) (A := A) (by decide) (hs _ dA_one) (va_eqt (hs _ dL_one)) (fun j hj => va_eqt (hs _ (List.mem_of_getElem? (dW_one j hj)))) hA
  obtain ⟨t2, ht2, hT2⟩ := va_Tof (tm := .static "java/lang/Integer" "DigitTens" "[B") (ty := .byte) (N := 100) (f := fun i => .int (dgTen i)) (A := A) (by decide) (hs _ dA_ten) (va_eqt (hs _ dL_ten)) (fun j hj => va_eqt (hs _ (List.mem_of_getElem? (dW_ten j hj)))) hA
  exact ⟨⟨t, va_Zof (hts _ tm_1030) (hts _ tm_53) ht hA, hT⟩, ⟨t2, va_Zof (hts _ tm_1032) (hts _ tm_53) ht2 hA, hT2⟩⟩
end EXS
theorem ex_priv {args : Array Value} {s : State} (hts : ∀ w ∈ lw_tbl, w.before args s = true) : ∀ y ∈ sbPriv, ∀ a : Array Value, (Cond.selects RJ4 y y).before a s = true := by
  intro y hy a
  have hz : (Cond.selects RJ4 yJ5_isLatin1_aae02 yJ5_isLatin1_aae02).before args s = true := hts _ tm_953
  have h : (Cond.selects RJ4 y y).before args s = true := by
    rcases List.mem_cons.mp hy with rfl | hy
    · exact sb_selP (z := yJ5_isLatin1_aae02) (by decide +kernel) rfl hz (hts _ tm_923) (hts _ tm_924)
    rcases List.mem_cons.mp hy with rfl | hy
    · exact sb_selP (z := yJ5_isLatin1_aae02) (by decide +kernel) rfl hz (hts _ tm_927) (hts _ tm_928)
    rcases List.mem_cons.mp hy with rfl | hy
    · exact sb_selP (z := yJ5_isLatin1_aae02) (by decide +kernel) rfl hz (hts _ tm_972) (hts _ tm_973)
    rcases List.mem_cons.mp hy with rfl | hy
    · exact sb_selP (z := yJ5_isLatin1_aae02) (by decide +kernel) rfl hz (hts _ tm_976) (hts _ tm_977)
    exact absurd hy List.not_mem_nil
  exact tb_one rfl (State.WarmedH.refl s) h
