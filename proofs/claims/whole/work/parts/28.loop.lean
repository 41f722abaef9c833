theorem dL_law_0 : decode cL_law 0 = .ok (.new 8, 3) := by decide +kernel
theorem dL_law_3 : decode cL_law 3 = .ok (.dup, 1) := by decide +kernel
theorem dL_law_4 : decode cL_law 4 = .ok (.invokespecial 112, 3) := by decide +kernel
theorem dL_law_7 : decode cL_law 7 = .ok (.astore_n 1, 1) := by decide +kernel
theorem dL_law_8 : decode cL_law 8 = .ok (.new 113, 3) := by decide +kernel
theorem dL_law_11 : decode cL_law 11 = .ok (.dup, 1) := by decide +kernel
theorem dL_law_12 : decode cL_law 12 = .ok (.invokespecial 115, 3) := by decide +kernel
theorem dL_law_15 : decode cL_law 15 = .ok (.astore_n 2, 1) := by decide +kernel
theorem dL_law_16 : decode cL_law 16 = .ok (.iconst 1, 1) := by decide +kernel
theorem dL_law_17 : decode cL_law 17 = .ok (.newarray .long, 2) := by decide +kernel
theorem dL_law_19 : decode cL_law 19 = .ok (.astore_n 3, 1) := by decide +kernel
theorem dL_law_20 : decode cL_law 20 = .ok (.iconst 0, 1) := by decide +kernel
theorem dL_law_21 : decode cL_law 21 = .ok (.istore 4, 2) := by decide +kernel
theorem dL_law_23 : decode cL_law 23 = .ok (.iload 4, 2) := by decide +kernel
theorem dL_law_25 : decode cL_law 25 = .ok (.aload_n 0, 1) := by decide +kernel
theorem dL_law_26 : decode cL_law 26 = .ok (.arraylength, 1) := by decide +kernel
theorem dL_law_27 : decode cL_law 27 = .ok (.bipush 6, 2) := by decide +kernel
theorem dL_law_29 : decode cL_law 29 = .ok (.isub, 1) := by decide +kernel
theorem dL_law_30 : decode cL_law 30 = .ok (.if_icmp .gt 2450, 3) := by decide +kernel
theorem dL_law_33 : decode cL_law 33 = .ok (.aload_n 0, 1) := by decide +kernel
theorem dL_law_34 : decode cL_law 34 = .ok (.iload 4, 2) := by decide +kernel
theorem dL_law_36 : decode cL_law 36 = .ok (.iaload, 1) := by decide +kernel
theorem dL_law_37 : decode cL_law 37 = .ok (.bipush 63, 2) := by decide +kernel
theorem dL_law_39 : decode cL_law 39 = .ok (.iand, 1) := by decide +kernel
theorem dL_law_40 : decode cL_law 40 = .ok (.tableswitch 2434 0 46 #[204, 277, 302, 315, 328, 341, 366, 379, 447, 515, 571, 639, 695, 708, 776, 832, 900, 956, 1031, 1044, 1057, 1070, 1083, 1096, 1137, 1180, 1236, 1316, 1372, 1440, 1508, 1576, 1632, 1688, 1732, 1800, 1868, 1924, 1980, 2036, 2116, 2172, 2240, 2296, 2352, 2377, 2390], 204) := by decide +kernel
theorem dL_law_2474 : decode cL_law 2474 = .ok (.iinc 4 6, 3) := by decide +kernel
theorem dL_law_2477 : decode cL_law 2477 = .ok (.goto (-2454), 3) := by decide +kernel
theorem dL_law_2480 : decode cL_law 2480 = .ok (.iconst 1, 1) := by decide +kernel
theorem dL_law_2481 : decode cL_law 2481 = .ok (.ireturn, 1) := by decide +kernel
def caseOf (v : Int32) : Nat := if v.toNatClampNeg < 47 then v.toNatClampNeg else 47
def f_law_case (n L : Nat) (xs : Nat → Int32) (v4 : Int32) (sv : Value) (st : LST) : Nat → Option LST
  | 0 => f_law_0 n L xs v4 sv (st.1) (st.2.1) (st.2.2.1) (st.2.2.2.1) (st.2.2.2.2.1) (st.2.2.2.2.2.1) (st.2.2.2.2.2.2.1) (st.2.2.2.2.2.2.2.1) (st.2.2.2.2.2.2.2.2.1) (st.2.2.2.2.2.2.2.2.2.1) (st.2.2.2.2.2.2.2.2.2.2.1) (st.2.2.2.2.2.2.2.2.2.2.2)
  | 1 => f_law_1 n L xs v4 sv (st.1) (st.2.1) (st.2.2.1) (st.2.2.2.1) (st.2.2.2.2.1) (st.2.2.2.2.2.1) (st.2.2.2.2.2.2.1) (st.2.2.2.2.2.2.2.1) (st.2.2.2.2.2.2.2.2.1) (st.2.2.2.2.2.2.2.2.2.1) (st.2.2.2.2.2.2.2.2.2.2.1) (st.2.2.2.2.2.2.2.2.2.2.2)
  | 2 => f_law_2 n L xs v4 sv (st.1) (st.2.1) (st.2.2.1) (st.2.2.2.1) (st.2.2.2.2.1) (st.2.2.2.2.2.1) (st.2.2.2.2.2.2.1) (st.2.2.2.2.2.2.2.1) (st.2.2.2.2.2.2.2.2.1) (st.2.2.2.2.2.2.2.2.2.1) (st.2.2.2.2.2.2.2.2.2.2.1) (st.2.2.2.2.2.2.2.2.2.2.2)
  | 3 => f_law_3 n L xs v4 sv (st.1) (st.2.1) (st.2.2.1) (st.2.2.2.1) (st.2.2.2.2.1) (st.2.2.2.2.2.1) (st.2.2.2.2.2.2.1) (st.2.2.2.2.2.2.2.1) (st.2.2.2.2.2.2.2.2.1) (st.2.2.2.2.2.2.2.2.2.1) (st.2.2.2.2.2.2.2.2.2.2.1) (st.2.2.2.2.2.2.2.2.2.2.2)
  | 4 => f_law_4 n L xs v4 sv (st.1) (st.2.1) (st.2.2.1) (st.2.2.2.1) (st.2.2.2.2.1) (st.2.2.2.2.2.1) (st.2.2.2.2.2.2.1) (st.2.2.2.2.2.2.2.1) (st.2.2.2.2.2.2.2.2.1) (st.2.2.2.2.2.2.2.2.2.1) (st.2.2.2.2.2.2.2.2.2.2.1) (st.2.2.2.2.2.2.2.2.2.2.2)
  | 5 => f_law_5 n L xs v4 sv (st.1) (st.2.1) (st.2.2.1) (st.2.2.2.1) (st.2.2.2.2.1) (st.2.2.2.2.2.1) (st.2.2.2.2.2.2.1) (st.2.2.2.2.2.2.2.1) (st.2.2.2.2.2.2.2.2.1) (st.2.2.2.2.2.2.2.2.2.1) (st.2.2.2.2.2.2.2.2.2.2.1) (st.2.2.2.2.2.2.2.2.2.2.2)
  | 6 => f_law_6 n L xs v4 sv (st.1) (st.2.1) (st.2.2.1) (st.2.2.2.1) (st.2.2.2.2.1) (st.2.2.2.2.2.1) (st.2.2.2.2.2.2.1) (st.2.2.2.2.2.2.2.1) (st.2.2.2.2.2.2.2.2.1) (st.2.2.2.2.2.2.2.2.2.1) (st.2.2.2.2.2.2.2.2.2.2.1) (st.2.2.2.2.2.2.2.2.2.2.2)
  | 7 => f_law_7 n L xs v4 sv (st.1) (st.2.1) (st.2.2.1) (st.2.2.2.1) (st.2.2.2.2.1) (st.2.2.2.2.2.1) (st.2.2.2.2.2.2.1) (st.2.2.2.2.2.2.2.1) (st.2.2.2.2.2.2.2.2.1) (st.2.2.2.2.2.2.2.2.2.1) (st.2.2.2.2.2.2.2.2.2.2.1) (st.2.2.2.2.2.2.2.2.2.2.2)
  | 8 => f_law_8 n L xs v4 sv (st.1) (st.2.1) (st.2.2.1) (st.2.2.2.1) (st.2.2.2.2.1) (st.2.2.2.2.2.1) (st.2.2.2.2.2.2.1) (st.2.2.2.2.2.2.2.1) (st.2.2.2.2.2.2.2.2.1) (st.2.2.2.2.2.2.2.2.2.1) (st.2.2.2.2.2.2.2.2.2.2.1) (st.2.2.2.2.2.2.2.2.2.2.2)
  | 9 => f_law_9 n L xs v4 sv (st.1) (st.2.1) (st.2.2.1) (st.2.2.2.1) (st.2.2.2.2.1) (st.2.2.2.2.2.1) (st.2.2.2.2.2.2.1) (st.2.2.2.2.2.2.2.1) (st.2.2.2.2.2.2.2.2.1) (st.2.2.2.2.2.2.2.2.2.1) (st.2.2.2.2.2.2.2.2.2.2.1) (st.2.2.2.2.2.2.2.2.2.2.2)
  | 10 => f_law_10 n L xs v4 sv (st.1) (st.2.1) (st.2.2.1) (st.2.2.2.1) (st.2.2.2.2.1) (st.2.2.2.2.2.1) (st.2.2.2.2.2.2.1) (st.2.2.2.2.2.2.2.1) (st.2.2.2.2.2.2.2.2.1) (st.2.2.2.2.2.2.2.2.2.1) (st.2.2.2.2.2.2.2.2.2.2.1) (st.2.2.2.2.2.2.2.2.2.2.2)
  | 11 => f_law_11 n L xs v4 sv (st.1) (st.2.1) (st.2.2.1) (st.2.2.2.1) (st.2.2.2.2.1) (st.2.2.2.2.2.1) (st.2.2.2.2.2.2.1) (st.2.2.2.2.2.2.2.1) (st.2.2.2.2.2.2.2.2.1) (st.2.2.2.2.2.2.2.2.2.1) (st.2.2.2.2.2.2.2.2.2.2.1) (st.2.2.2.2.2.2.2.2.2.2.2)
  | 12 => f_law_12 n L xs v4 sv (st.1) (st.2.1) (st.2.2.1) (st.2.2.2.1) (st.2.2.2.2.1) (st.2.2.2.2.2.1) (st.2.2.2.2.2.2.1) (st.2.2.2.2.2.2.2.1) (st.2.2.2.2.2.2.2.2.1) (st.2.2.2.2.2.2.2.2.2.1) (st.2.2.2.2.2.2.2.2.2.2.1) (st.2.2.2.2.2.2.2.2.2.2.2)
  | 13 => f_law_13 n L xs v4 sv (st.1) (st.2.1) (st.2.2.1) (st.2.2.2.1) (st.2.2.2.2.1) (st.2.2.2.2.2.1) (st.2.2.2.2.2.2.1) (st.2.2.2.2.2.2.2.1) (st.2.2.2.2.2.2.2.2.1) (st.2.2.2.2.2.2.2.2.2.1) (st.2.2.2.2.2.2.2.2.2.2.1) (st.2.2.2.2.2.2.2.2.2.2.2)
  | 14 => f_law_14 n L xs v4 sv (st.1) (st.2.1) (st.2.2.1) (st.2.2.2.1) (st.2.2.2.2.1) (st.2.2.2.2.2.1) (st.2.2.2.2.2.2.1) (st.2.2.2.2.2.2.2.1) (st.2.2.2.2.2.2.2.2.1) (st.2.2.2.2.2.2.2.2.2.1) (st.2.2.2.2.2.2.2.2.2.2.1) (st.2.2.2.2.2.2.2.2.2.2.2)
  | 15 => f_law_15 n L xs v4 sv (st.1) (st.2.1) (st.2.2.1) (st.2.2.2.1) (st.2.2.2.2.1) (st.2.2.2.2.2.1) (st.2.2.2.2.2.2.1) (st.2.2.2.2.2.2.2.1) (st.2.2.2.2.2.2.2.2.1) (st.2.2.2.2.2.2.2.2.2.1) (st.2.2.2.2.2.2.2.2.2.2.1) (st.2.2.2.2.2.2.2.2.2.2.2)
  | 16 => f_law_16 n L xs v4 sv (st.1) (st.2.1) (st.2.2.1) (st.2.2.2.1) (st.2.2.2.2.1) (st.2.2.2.2.2.1) (st.2.2.2.2.2.2.1) (st.2.2.2.2.2.2.2.1) (st.2.2.2.2.2.2.2.2.1) (st.2.2.2.2.2.2.2.2.2.1) (st.2.2.2.2.2.2.2.2.2.2.1) (st.2.2.2.2.2.2.2.2.2.2.2)
  | 17 => f_law_17 n L xs v4 sv (st.1) (st.2.1) (st.2.2.1) (st.2.2.2.1) (st.2.2.2.2.1) (st.2.2.2.2.2.1) (st.2.2.2.2.2.2.1) (st.2.2.2.2.2.2.2.1) (st.2.2.2.2.2.2.2.2.1) (st.2.2.2.2.2.2.2.2.2.1) (st.2.2.2.2.2.2.2.2.2.2.1) (st.2.2.2.2.2.2.2.2.2.2.2)
  | 18 => f_law_18 n L xs v4 sv (st.1) (st.2.1) (st.2.2.1) (st.2.2.2.1) (st.2.2.2.2.1) (st.2.2.2.2.2.1) (st.2.2.2.2.2.2.1) (st.2.2.2.2.2.2.2.1) (st.2.2.2.2.2.2.2.2.1) (st.2.2.2.2.2.2.2.2.2.1) (st.2.2.2.2.2.2.2.2.2.2.1) (st.2.2.2.2.2.2.2.2.2.2.2)
  | 19 => f_law_19 n L xs v4 sv (st.1) (st.2.1) (st.2.2.1) (st.2.2.2.1) (st.2.2.2.2.1) (st.2.2.2.2.2.1) (st.2.2.2.2.2.2.1) (st.2.2.2.2.2.2.2.1) (st.2.2.2.2.2.2.2.2.1) (st.2.2.2.2.2.2.2.2.2.1) (st.2.2.2.2.2.2.2.2.2.2.1) (st.2.2.2.2.2.2.2.2.2.2.2)
  | 20 => f_law_20 n L xs v4 sv (st.1) (st.2.1) (st.2.2.1) (st.2.2.2.1) (st.2.2.2.2.1) (st.2.2.2.2.2.1) (st.2.2.2.2.2.2.1) (st.2.2.2.2.2.2.2.1) (st.2.2.2.2.2.2.2.2.1) (st.2.2.2.2.2.2.2.2.2.1) (st.2.2.2.2.2.2.2.2.2.2.1) (st.2.2.2.2.2.2.2.2.2.2.2)
  | 21 => f_law_21 n L xs v4 sv (st.1) (st.2.1) (st.2.2.1) (st.2.2.2.1) (st.2.2.2.2.1) (st.2.2.2.2.2.1) (st.2.2.2.2.2.2.1) (st.2.2.2.2.2.2.2.1) (st.2.2.2.2.2.2.2.2.1) (st.2.2.2.2.2.2.2.2.2.1) (st.2.2.2.2.2.2.2.2.2.2.1) (st.2.2.2.2.2.2.2.2.2.2.2)
  | 22 => f_law_22 n L xs v4 sv (st.1) (st.2.1) (st.2.2.1) (st.2.2.2.1) (st.2.2.2.2.1) (st.2.2.2.2.2.1) (st.2.2.2.2.2.2.1) (st.2.2.2.2.2.2.2.1) (st.2.2.2.2.2.2.2.2.1) (st.2.2.2.2.2.2.2.2.2.1) (st.2.2.2.2.2.2.2.2.2.2.1) (st.2.2.2.2.2.2.2.2.2.2.2)
  | 23 => f_law_23 n L xs v4 sv (st.1) (st.2.1) (st.2.2.1) (st.2.2.2.1) (st.2.2.2.2.1) (st.2.2.2.2.2.1) (st.2.2.2.2.2.2.1) (st.2.2.2.2.2.2.2.1) (st.2.2.2.2.2.2.2.2.1) (st.2.2.2.2.2.2.2.2.2.1) (st.2.2.2.2.2.2.2.2.2.2.1) (st.2.2.2.2.2.2.2.2.2.2.2)
  | 24 => f_law_24 n L xs v4 sv (st.1) (st.2.1) (st.2.2.1) (st.2.2.2.1) (st.2.2.2.2.1) (st.2.2.2.2.2.1) (st.2.2.2.2.2.2.1) (st.2.2.2.2.2.2.2.1) (st.2.2.2.2.2.2.2.2.1) (st.2.2.2.2.2.2.2.2.2.1) (st.2.2.2.2.2.2.2.2.2.2.1) (st.2.2.2.2.2.2.2.2.2.2.2)
  | 25 => f_law_25 n L xs v4 sv (st.1) (st.2.1) (st.2.2.1) (st.2.2.2.1) (st.2.2.2.2.1) (st.2.2.2.2.2.1) (st.2.2.2.2.2.2.1) (st.2.2.2.2.2.2.2.1) (st.2.2.2.2.2.2.2.2.1) (st.2.2.2.2.2.2.2.2.2.1) (st.2.2.2.2.2.2.2.2.2.2.1) (st.2.2.2.2.2.2.2.2.2.2.2)
  | 26 => f_law_26 n L xs v4 sv (st.1) (st.2.1) (st.2.2.1) (st.2.2.2.1) (st.2.2.2.2.1) (st.2.2.2.2.2.1) (st.2.2.2.2.2.2.1) (st.2.2.2.2.2.2.2.1) (st.2.2.2.2.2.2.2.2.1) (st.2.2.2.2.2.2.2.2.2.1) (st.2.2.2.2.2.2.2.2.2.2.1) (st.2.2.2.2.2.2.2.2.2.2.2)
  | 27 => f_law_27 n L xs v4 sv (st.1) (st.2.1) (st.2.2.1) (st.2.2.2.1) (st.2.2.2.2.1) (st.2.2.2.2.2.1) (st.2.2.2.2.2.2.1) (st.2.2.2.2.2.2.2.1) (st.2.2.2.2.2.2.2.2.1) (st.2.2.2.2.2.2.2.2.2.1) (st.2.2.2.2.2.2.2.2.2.2.1) (st.2.2.2.2.2.2.2.2.2.2.2)
  | 28 => f_law_28 n L xs v4 sv (st.1) (st.2.1) (st.2.2.1) (st.2.2.2.1) (st.2.2.2.2.1) (st.2.2.2.2.2.1) (st.2.2.2.2.2.2.1) (st.2.2.2.2.2.2.2.1) (st.2.2.2.2.2.2.2.2.1) (st.2.2.2.2.2.2.2.2.2.1) (st.2.2.2.2.2.2.2.2.2.2.1) (st.2.2.2.2.2.2.2.2.2.2.2)
  | 29 => f_law_29 n L xs v4 sv (st.1) (st.2.1) (st.2.2.1) (st.2.2.2.1) (st.2.2.2.2.1) (st.2.2.2.2.2.1) (st.2.2.2.2.2.2.1) (st.2.2.2.2.2.2.2.1) (st.2.2.2.2.2.2.2.2.1) (st.2.2.2.2.2.2.2.2.2.1) (st.2.2.2.2.2.2.2.2.2.2.1) (st.2.2.2.2.2.2.2.2.2.2.2)
  | 30 => f_law_30 n L xs v4 sv (st.1) (st.2.1) (st.2.2.1) (st.2.2.2.1) (st.2.2.2.2.1) (st.2.2.2.2.2.1) (st.2.2.2.2.2.2.1) (st.2.2.2.2.2.2.2.1) (st.2.2.2.2.2.2.2.2.1) (st.2.2.2.2.2.2.2.2.2.1) (st.2.2.2.2.2.2.2.2.2.2.1) (st.2.2.2.2.2.2.2.2.2.2.2)
  | 31 => f_law_31 n L xs v4 sv (st.1) (st.2.1) (st.2.2.1) (st.2.2.2.1) (st.2.2.2.2.1) (st.2.2.2.2.2.1) (st.2.2.2.2.2.2.1) (st.2.2.2.2.2.2.2.1) (st.2.2.2.2.2.2.2.2.1) (st.2.2.2.2.2.2.2.2.2.1) (st.2.2.2.2.2.2.2.2.2.2.1) (st.2.2.2.2.2.2.2.2.2.2.2)
  | 32 => f_law_32 n L xs v4 sv (st.1) (st.2.1) (st.2.2.1) (st.2.2.2.1) (st.2.2.2.2.1) (st.2.2.2.2.2.1) (st.2.2.2.2.2.2.1) (st.2.2.2.2.2.2.2.1) (st.2.2.2.2.2.2.2.2.1) (st.2.2.2.2.2.2.2.2.2.1) (st.2.2.2.2.2.2.2.2.2.2.1) (st.2.2.2.2.2.2.2.2.2.2.2)
  | 33 => f_law_33 n L xs v4 sv (st.1) (st.2.1) (st.2.2.1) (st.2.2.2.1) (st.2.2.2.2.1) (st.2.2.2.2.2.1) (st.2.2.2.2.2.2.1) (st.2.2.2.2.2.2.2.1) (st.2.2.2.2.2.2.2.2.1) (st.2.2.2.2.2.2.2.2.2.1) (st.2.2.2.2.2.2.2.2.2.2.1) (st.2.2.2.2.2.2.2.2.2.2.2)
  | 34 => f_law_34 n L xs v4 sv (st.1) (st.2.1) (st.2.2.1) (st.2.2.2.1) (st.2.2.2.2.1) (st.2.2.2.2.2.1) (st.2.2.2.2.2.2.1) (st.2.2.2.2.2.2.2.1) (st.2.2.2.2.2.2.2.2.1) (st.2.2.2.2.2.2.2.2.2.1) (st.2.2.2.2.2.2.2.2.2.2.1) (st.2.2.2.2.2.2.2.2.2.2.2)
  | 35 => f_law_35 n L xs v4 sv (st.1) (st.2.1) (st.2.2.1) (st.2.2.2.1) (st.2.2.2.2.1) (st.2.2.2.2.2.1) (st.2.2.2.2.2.2.1) (st.2.2.2.2.2.2.2.1) (st.2.2.2.2.2.2.2.2.1) (st.2.2.2.2.2.2.2.2.2.1) (st.2.2.2.2.2.2.2.2.2.2.1) (st.2.2.2.2.2.2.2.2.2.2.2)
  | 36 => f_law_36 n L xs v4 sv (st.1) (st.2.1) (st.2.2.1) (st.2.2.2.1) (st.2.2.2.2.1) (st.2.2.2.2.2.1) (st.2.2.2.2.2.2.1) (st.2.2.2.2.2.2.2.1) (st.2.2.2.2.2.2.2.2.1) (st.2.2.2.2.2.2.2.2.2.1) (st.2.2.2.2.2.2.2.2.2.2.1) (st.2.2.2.2.2.2.2.2.2.2.2)
  | 37 => f_law_37 n L xs v4 sv (st.1) (st.2.1) (st.2.2.1) (st.2.2.2.1) (st.2.2.2.2.1) (st.2.2.2.2.2.1) (st.2.2.2.2.2.2.1) (st.2.2.2.2.2.2.2.1) (st.2.2.2.2.2.2.2.2.1) (st.2.2.2.2.2.2.2.2.2.1) (st.2.2.2.2.2.2.2.2.2.2.1) (st.2.2.2.2.2.2.2.2.2.2.2)
  | 38 => f_law_38 n L xs v4 sv (st.1) (st.2.1) (st.2.2.1) (st.2.2.2.1) (st.2.2.2.2.1) (st.2.2.2.2.2.1) (st.2.2.2.2.2.2.1) (st.2.2.2.2.2.2.2.1) (st.2.2.2.2.2.2.2.2.1) (st.2.2.2.2.2.2.2.2.2.1) (st.2.2.2.2.2.2.2.2.2.2.1) (st.2.2.2.2.2.2.2.2.2.2.2)
  | 39 => f_law_39 n L xs v4 sv (st.1) (st.2.1) (st.2.2.1) (st.2.2.2.1) (st.2.2.2.2.1) (st.2.2.2.2.2.1) (st.2.2.2.2.2.2.1) (st.2.2.2.2.2.2.2.1) (st.2.2.2.2.2.2.2.2.1) (st.2.2.2.2.2.2.2.2.2.1) (st.2.2.2.2.2.2.2.2.2.2.1) (st.2.2.2.2.2.2.2.2.2.2.2)
  | 40 => f_law_40 n L xs v4 sv (st.1) (st.2.1) (st.2.2.1) (st.2.2.2.1) (st.2.2.2.2.1) (st.2.2.2.2.2.1) (st.2.2.2.2.2.2.1) (st.2.2.2.2.2.2.2.1) (st.2.2.2.2.2.2.2.2.1) (st.2.2.2.2.2.2.2.2.2.1) (st.2.2.2.2.2.2.2.2.2.2.1) (st.2.2.2.2.2.2.2.2.2.2.2)
  | 41 => f_law_41 n L xs v4 sv (st.1) (st.2.1) (st.2.2.1) (st.2.2.2.1) (st.2.2.2.2.1) (st.2.2.2.2.2.1) (st.2.2.2.2.2.2.1) (st.2.2.2.2.2.2.2.1) (st.2.2.2.2.2.2.2.2.1) (st.2.2.2.2.2.2.2.2.2.1) (st.2.2.2.2.2.2.2.2.2.2.1) (st.2.2.2.2.2.2.2.2.2.2.2)
  | 42 => f_law_42 n L xs v4 sv (st.1) (st.2.1) (st.2.2.1) (st.2.2.2.1) (st.2.2.2.2.1) (st.2.2.2.2.2.1) (st.2.2.2.2.2.2.1) (st.2.2.2.2.2.2.2.1) (st.2.2.2.2.2.2.2.2.1) (st.2.2.2.2.2.2.2.2.2.1) (st.2.2.2.2.2.2.2.2.2.2.1) (st.2.2.2.2.2.2.2.2.2.2.2)
  | 43 => f_law_43 n L xs v4 sv (st.1) (st.2.1) (st.2.2.1) (st.2.2.2.1) (st.2.2.2.2.1) (st.2.2.2.2.2.1) (st.2.2.2.2.2.2.1) (st.2.2.2.2.2.2.2.1) (st.2.2.2.2.2.2.2.2.1) (st.2.2.2.2.2.2.2.2.2.1) (st.2.2.2.2.2.2.2.2.2.2.1) (st.2.2.2.2.2.2.2.2.2.2.2)
  | 44 => f_law_44 n L xs v4 sv (st.1) (st.2.1) (st.2.2.1) (st.2.2.2.1) (st.2.2.2.2.1) (st.2.2.2.2.2.1) (st.2.2.2.2.2.2.1) (st.2.2.2.2.2.2.2.1) (st.2.2.2.2.2.2.2.2.1) (st.2.2.2.2.2.2.2.2.2.1) (st.2.2.2.2.2.2.2.2.2.2.1) (st.2.2.2.2.2.2.2.2.2.2.2)
  | 45 => f_law_45 n L xs v4 sv (st.1) (st.2.1) (st.2.2.1) (st.2.2.2.1) (st.2.2.2.2.1) (st.2.2.2.2.2.1) (st.2.2.2.2.2.2.1) (st.2.2.2.2.2.2.2.1) (st.2.2.2.2.2.2.2.2.1) (st.2.2.2.2.2.2.2.2.2.1) (st.2.2.2.2.2.2.2.2.2.2.1) (st.2.2.2.2.2.2.2.2.2.2.2)
  | 46 => f_law_46 n L xs v4 sv (st.1) (st.2.1) (st.2.2.1) (st.2.2.2.1) (st.2.2.2.2.1) (st.2.2.2.2.2.1) (st.2.2.2.2.2.2.1) (st.2.2.2.2.2.2.2.1) (st.2.2.2.2.2.2.2.2.1) (st.2.2.2.2.2.2.2.2.2.1) (st.2.2.2.2.2.2.2.2.2.2.1) (st.2.2.2.2.2.2.2.2.2.2.2)
  | _ => some st
/-- the law goes on to its end, and finds every answer equal -/
def Lgood (n L : Nat) (xs : Nat → Int32) : Nat → Int32 → LST → Prop
  | 0, _, _ => False
  | N + 1, i, st => (Int32.ofNat L) - (6 : Int32) < i ∨ (¬ (Int32.ofNat L) - (6 : Int32) < i ∧ vp_in i L ∧ ∀ sv : Value, ∃ st' : LST, f_law_case n L xs i sv st (caseOf (xs i.toNatClampNeg &&& 63)) = some st' ∧ Lgood n L xs N (i + (6 : Int32)) st')
def LW (k : KT) (a_p1 : Nat → Nat) (a_p1in : Nat → Nat) (a_p1ou : Nat → Nat) (a_p1ru : Nat → Nat) (a_p1no : Nat → Nat) (a_p1fo : Nat → Nat) (a_p1rd : Nat → Nat) (a_p1rr : Nat → Nat) (a_p1pa : Nat → Nat) (a_p2 : Nat → Nat) (a_p3 : Nat → Nat) (pp : Nat → Nat → Nat) (sa : Nat → Nat) (st : LST) : va_W := (List.flatten [wMCo k a_p1 (a_p1in 0) (a_p1ou 0) (a_p1ru 0) (a_p1no 0) (a_p1fo 0) (a_p1rd 0) (a_p1pa 0) (svV sa (st.2.2.2.2.2.2.2.2.2.2.2)) (st.1), wBytes k a_p1in 600 (st.2.1), wBytes k a_p1ou 1024 (st.2.2.1), wRules k a_p1ru (st.2.2.2.1), wCourt k a_p1no (st.2.2.2.2.1), wCourt k a_p1fo (st.2.2.2.2.2.1), wReader k a_p1rd (a_p1in 0) (a_p1fo 0) (a_p1rr 0) (st.2.2.2.2.2.2.1), wRules k a_p1rr (st.2.2.2.2.2.2.2.1), wPast k a_p1pa pp (st.2.2.2.2.2.2.2.2.1), wModel k a_p2 (st.2.2.2.2.2.2.2.2.2.1), wJArr k a_p3 1 (st.2.2.2.2.2.2.2.2.2.2.1)] ++ savW k sa (st.2.2.2.2.2.2.2.2.2.2.2)) ++ poolW k pp (st.2.2.2.2.2.2.2.2.1).2
set_option maxHeartbeats 4000000 in
set_option maxRecDepth 100000 in
theorem c_law_switch {p : Program} {l : Launch} {e : Env} {s : State} {m : MethodId} {below : List Frame} {meth : Method} {c : Code} {A : Nat → Prop} {Q : State → Prop} {b L : Nat} {xs : Nat → Int32} {k : KT} (n : Nat) (hE : EH k) (hx : XH l k) (hN : CCH k) (E : E0 p s m c cL_law 9 RL k A) (hX : va_X b L xs s s.heap) (hbl : b < s.heap.size) (hbA : ¬ A b) (hA : ∀ q : Nat, s.heap.size ≤ q → A q) (a_p1 : Nat → Nat) (a_p1in : Nat → Nat) (a_p1ou : Nat → Nat) (a_p1ru : Nat → Nat) (a_p1no : Nat → Nat) (a_p1fo : Nat → Nat) (a_p1rd : Nat → Nat) (a_p1rr : Nat → Nat) (a_p1pa : Nat → Nat) (a_p2 : Nat → Nat) (a_p3 : Nat → Nat) (pp : Nat → Nat → Nat) (sa : Nat → Nat) (v4 : Int32) (st res : LST) (x : Int32) (hx0 : 0 ≤ x.toInt) (hf : f_law_case n L xs v4 (svV sa (st.2.2.2.2.2.2.2.2.2.2.2)) st (caseOf x) = some res) (H : Heap) (locs : List Loc) (ls : Array Slot) (c0 s0 : Nat) (hc0 : c0 + 40 ≤ 601024) (hs0 : s0 + 8000 ≤ 7293034) (hW : WD k A s.heap (LW k a_p1 a_p1in a_p1ou a_p1ru a_p1no a_p1fo a_p1rd a_p1rr a_p1pa a_p2 a_p3 pp sa st) H locs) (hl : lv_has ls 9 [(0, .ref b), (1, .ref (a_p1 0)), (2, .ref (a_p2 0)), (3, .ref (a_p3 0)), (4, .int v4)]) (hgo : ∀ (pp : Nat → Nat → Nat) (sa : Nat → Nat) (H : Heap) (locs : List Loc) (ls : Array Slot) (cells slots : Nat), cells ≤ c0 + 40 → slots ≤ s0 + 8000 → WD k A s.heap (LW k a_p1 a_p1in a_p1ou a_p1ru a_p1no a_p1fo a_p1rd a_p1rr a_p1pa a_p2 a_p3 pp sa res) H locs → lv_has ls 9 [(0, .ref b), (1, .ref (a_p1 0)), (2, .ref (a_p2 0)), (3, .ref (a_p3 0)), (4, .int v4)] → W p l e room_1 s m #[Value.ref b] below meth c H locs cells slots Q (F0 m 2474 ls [])) : W p l e room_1 s m #[Value.ref b] below meth c H locs c0 s0 Q (F0 m 40 ls [.int x]) := by
  by_cases hsw : (x).toInt < 0 ∨ 46 < (x).toInt
  · have hc : caseOf x = 47 := by
      have h1 : ¬ x.toNatClampNeg < 47 := by
        have h2 : x.toNatClampNeg = x.toInt.toNat := rfl
        omega
      exact if_neg h1
    rw [hc] at hf
    have hf : some st = some res := hf
    cases hf
    refine lv_tableOut (tgt := 2474) E.hx E.hb dL_law_40 hsw (by decide) ?_
    exact hgo pp sa _ _ _ _ _ (by omega) (by omega) hW hl
  by_cases hc : x = (0 : Int32)
  · subst hc
    refine lv_tableIn (off := (204)) (tgt := 244) E.hx E.hb dL_law_40 (by decide) (by decide) rfl (by decide) ?_
    exact c_law_0 n hE hx hN E hX hbl hbA hA a_p1 a_p1in a_p1ou a_p1ru a_p1no a_p1fo a_p1rd a_p1rr a_p1pa a_p2 a_p3 pp sa v4 (st.1) (st.2.1) (st.2.2.1) (st.2.2.2.1) (st.2.2.2.2.1) (st.2.2.2.2.2.1) (st.2.2.2.2.2.2.1) (st.2.2.2.2.2.2.2.1) (st.2.2.2.2.2.2.2.2.1) (st.2.2.2.2.2.2.2.2.2.1) (st.2.2.2.2.2.2.2.2.2.2.1) (st.2.2.2.2.2.2.2.2.2.2.2) res hf H locs ls c0 s0 hc0 hs0 hW hl hgo
  have hn_0 : ¬ (x).toInt = 0 := fun z => hc (Int32.toInt_inj.mp (z.trans (show (0 : Int) = ((0 : Int32)).toInt from by decide))); clear hc
  by_cases hc : x = (1 : Int32)
  · subst hc
    refine lv_tableIn (off := (277)) (tgt := 317) E.hx E.hb dL_law_40 (by decide) (by decide) rfl (by decide) ?_
    exact c_law_1 n hE hx hN E hX hbl hbA hA a_p1 a_p1in a_p1ou a_p1ru a_p1no a_p1fo a_p1rd a_p1rr a_p1pa a_p2 a_p3 pp sa v4 (st.1) (st.2.1) (st.2.2.1) (st.2.2.2.1) (st.2.2.2.2.1) (st.2.2.2.2.2.1) (st.2.2.2.2.2.2.1) (st.2.2.2.2.2.2.2.1) (st.2.2.2.2.2.2.2.2.1) (st.2.2.2.2.2.2.2.2.2.1) (st.2.2.2.2.2.2.2.2.2.2.1) (st.2.2.2.2.2.2.2.2.2.2.2) res hf H locs ls c0 s0 hc0 hs0 hW hl hgo
  have hn_1 : ¬ (x).toInt = 1 := fun z => hc (Int32.toInt_inj.mp (z.trans (show (1 : Int) = ((1 : Int32)).toInt from by decide))); clear hc
  by_cases hc : x = (2 : Int32)
  · subst hc
    refine lv_tableIn (off := (302)) (tgt := 342) E.hx E.hb dL_law_40 (by decide) (by decide) rfl (by decide) ?_
    exact c_law_2 n hE hx hN E hX hbl hbA hA a_p1 a_p1in a_p1ou a_p1ru a_p1no a_p1fo a_p1rd a_p1rr a_p1pa a_p2 a_p3 pp sa v4 (st.1) (st.2.1) (st.2.2.1) (st.2.2.2.1) (st.2.2.2.2.1) (st.2.2.2.2.2.1) (st.2.2.2.2.2.2.1) (st.2.2.2.2.2.2.2.1) (st.2.2.2.2.2.2.2.2.1) (st.2.2.2.2.2.2.2.2.2.1) (st.2.2.2.2.2.2.2.2.2.2.1) (st.2.2.2.2.2.2.2.2.2.2.2) res hf H locs ls c0 s0 hc0 hs0 hW hl hgo
  have hn_2 : ¬ (x).toInt = 2 := fun z => hc (Int32.toInt_inj.mp (z.trans (show (2 : Int) = ((2 : Int32)).toInt from by decide))); clear hc
  by_cases hc : x = (3 : Int32)
  · subst hc
    refine lv_tableIn (off := (315)) (tgt := 355) E.hx E.hb dL_law_40 (by decide) (by decide) rfl (by decide) ?_
    exact c_law_3 n hE hx hN E hX hbl hbA hA a_p1 a_p1in a_p1ou a_p1ru a_p1no a_p1fo a_p1rd a_p1rr a_p1pa a_p2 a_p3 pp sa v4 (st.1) (st.2.1) (st.2.2.1) (st.2.2.2.1) (st.2.2.2.2.1) (st.2.2.2.2.2.1) (st.2.2.2.2.2.2.1) (st.2.2.2.2.2.2.2.1) (st.2.2.2.2.2.2.2.2.1) (st.2.2.2.2.2.2.2.2.2.1) (st.2.2.2.2.2.2.2.2.2.2.1) (st.2.2.2.2.2.2.2.2.2.2.2) res hf H locs ls c0 s0 hc0 hs0 hW hl hgo
  have hn_3 : ¬ (x).toInt = 3 := fun z => hc (Int32.toInt_inj.mp (z.trans (show (3 : Int) = ((3 : Int32)).toInt from by decide))); clear hc
  by_cases hc : x = (4 : Int32)
  · subst hc
    refine lv_tableIn (off := (328)) (tgt := 368) E.hx E.hb dL_law_40 (by decide) (by decide) rfl (by decide) ?_
    exact c_law_4 n hE hx hN E hX hbl hbA hA a_p1 a_p1in a_p1ou a_p1ru a_p1no a_p1fo a_p1rd a_p1rr a_p1pa a_p2 a_p3 pp sa v4 (st.1) (st.2.1) (st.2.2.1) (st.2.2.2.1) (st.2.2.2.2.1) (st.2.2.2.2.2.1) (st.2.2.2.2.2.2.1) (st.2.2.2.2.2.2.2.1) (st.2.2.2.2.2.2.2.2.1) (st.2.2.2.2.2.2.2.2.2.1) (st.2.2.2.2.2.2.2.2.2.2.1) (st.2.2.2.2.2.2.2.2.2.2.2) res hf H locs ls c0 s0 hc0 hs0 hW hl hgo
  have hn_4 : ¬ (x).toInt = 4 := fun z => hc (Int32.toInt_inj.mp (z.trans (show (4 : Int) = ((4 : Int32)).toInt from by decide))); clear hc
  by_cases hc : x = (5 : Int32)
  · subst hc
    refine lv_tableIn (off := (341)) (tgt := 381) E.hx E.hb dL_law_40 (by decide) (by decide) rfl (by decide) ?_
    exact c_law_5 n hE hx hN E hX hbl hbA hA a_p1 a_p1in a_p1ou a_p1ru a_p1no a_p1fo a_p1rd a_p1rr a_p1pa a_p2 a_p3 pp sa v4 (st.1) (st.2.1) (st.2.2.1) (st.2.2.2.1) (st.2.2.2.2.1) (st.2.2.2.2.2.1) (st.2.2.2.2.2.2.1) (st.2.2.2.2.2.2.2.1) (st.2.2.2.2.2.2.2.2.1) (st.2.2.2.2.2.2.2.2.2.1) (st.2.2.2.2.2.2.2.2.2.2.1) (st.2.2.2.2.2.2.2.2.2.2.2) res hf H locs ls c0 s0 hc0 hs0 hW hl hgo
  have hn_5 : ¬ (x).toInt = 5 := fun z => hc (Int32.toInt_inj.mp (z.trans (show (5 : Int) = ((5 : Int32)).toInt from by decide))); clear hc
  by_cases hc : x = (6 : Int32)
  · subst hc
    refine lv_tableIn (off := (366)) (tgt := 406) E.hx E.hb dL_law_40 (by decide) (by decide) rfl (by decide) ?_
    exact c_law_6 n hE hx hN E hX hbl hbA hA a_p1 a_p1in a_p1ou a_p1ru a_p1no a_p1fo a_p1rd a_p1rr a_p1pa a_p2 a_p3 pp sa v4 (st.1) (st.2.1) (st.2.2.1) (st.2.2.2.1) (st.2.2.2.2.1) (st.2.2.2.2.2.1) (st.2.2.2.2.2.2.1) (st.2.2.2.2.2.2.2.1) (st.2.2.2.2.2.2.2.2.1) (st.2.2.2.2.2.2.2.2.2.1) (st.2.2.2.2.2.2.2.2.2.2.1) (st.2.2.2.2.2.2.2.2.2.2.2) res hf H locs ls c0 s0 hc0 hs0 hW hl hgo
  have hn_6 : ¬ (x).toInt = 6 := fun z => hc (Int32.toInt_inj.mp (z.trans (show (6 : Int) = ((6 : Int32)).toInt from by decide))); clear hc
  by_cases hc : x = (7 : Int32)
  · subst hc
    refine lv_tableIn (off := (379)) (tgt := 419) E.hx E.hb dL_law_40 (by decide) (by decide) rfl (by decide) ?_
    exact c_law_7 n hE hx hN E hX hbl hbA hA a_p1 a_p1in a_p1ou a_p1ru a_p1no a_p1fo a_p1rd a_p1rr a_p1pa a_p2 a_p3 pp sa v4 (st.1) (st.2.1) (st.2.2.1) (st.2.2.2.1) (st.2.2.2.2.1) (st.2.2.2.2.2.1) (st.2.2.2.2.2.2.1) (st.2.2.2.2.2.2.2.1) (st.2.2.2.2.2.2.2.2.1) (st.2.2.2.2.2.2.2.2.2.1) (st.2.2.2.2.2.2.2.2.2.2.1) (st.2.2.2.2.2.2.2.2.2.2.2) res hf H locs ls c0 s0 hc0 hs0 hW hl hgo
  have hn_7 : ¬ (x).toInt = 7 := fun z => hc (Int32.toInt_inj.mp (z.trans (show (7 : Int) = ((7 : Int32)).toInt from by decide))); clear hc
  by_cases hc : x = (8 : Int32)
  · subst hc
    refine lv_tableIn (off := (447)) (tgt := 487) E.hx E.hb dL_law_40 (by decide) (by decide) rfl (by decide) ?_
    exact c_law_8 n hE hx hN E hX hbl hbA hA a_p1 a_p1in a_p1ou a_p1ru a_p1no a_p1fo a_p1rd a_p1rr a_p1pa a_p2 a_p3 pp sa v4 (st.1) (st.2.1) (st.2.2.1) (st.2.2.2.1) (st.2.2.2.2.1) (st.2.2.2.2.2.1) (st.2.2.2.2.2.2.1) (st.2.2.2.2.2.2.2.1) (st.2.2.2.2.2.2.2.2.1) (st.2.2.2.2.2.2.2.2.2.1) (st.2.2.2.2.2.2.2.2.2.2.1) (st.2.2.2.2.2.2.2.2.2.2.2) res hf H locs ls c0 s0 hc0 hs0 hW hl hgo
  have hn_8 : ¬ (x).toInt = 8 := fun z => hc (Int32.toInt_inj.mp (z.trans (show (8 : Int) = ((8 : Int32)).toInt from by decide))); clear hc
  by_cases hc : x = (9 : Int32)
  · subst hc
    refine lv_tableIn (off := (515)) (tgt := 555) E.hx E.hb dL_law_40 (by decide) (by decide) rfl (by decide) ?_
    exact c_law_9 n hE hx hN E hX hbl hbA hA a_p1 a_p1in a_p1ou a_p1ru a_p1no a_p1fo a_p1rd a_p1rr a_p1pa a_p2 a_p3 pp sa v4 (st.1) (st.2.1) (st.2.2.1) (st.2.2.2.1) (st.2.2.2.2.1) (st.2.2.2.2.2.1) (st.2.2.2.2.2.2.1) (st.2.2.2.2.2.2.2.1) (st.2.2.2.2.2.2.2.2.1) (st.2.2.2.2.2.2.2.2.2.1) (st.2.2.2.2.2.2.2.2.2.2.1) (st.2.2.2.2.2.2.2.2.2.2.2) res hf H locs ls c0 s0 hc0 hs0 hW hl hgo
  have hn_9 : ¬ (x).toInt = 9 := fun z => hc (Int32.toInt_inj.mp (z.trans (show (9 : Int) = ((9 : Int32)).toInt from by decide))); clear hc
  by_cases hc : x = (10 : Int32)
  · subst hc
    refine lv_tableIn (off := (571)) (tgt := 611) E.hx E.hb dL_law_40 (by decide) (by decide) rfl (by decide) ?_
    exact c_law_10 n hE hx hN E hX hbl hbA hA a_p1 a_p1in a_p1ou a_p1ru a_p1no a_p1fo a_p1rd a_p1rr a_p1pa a_p2 a_p3 pp sa v4 (st.1) (st.2.1) (st.2.2.1) (st.2.2.2.1) (st.2.2.2.2.1) (st.2.2.2.2.2.1) (st.2.2.2.2.2.2.1) (st.2.2.2.2.2.2.2.1) (st.2.2.2.2.2.2.2.2.1) (st.2.2.2.2.2.2.2.2.2.1) (st.2.2.2.2.2.2.2.2.2.2.1) (st.2.2.2.2.2.2.2.2.2.2.2) res hf H locs ls c0 s0 hc0 hs0 hW hl hgo
  have hn_10 : ¬ (x).toInt = 10 := fun z => hc (Int32.toInt_inj.mp (z.trans (show (10 : Int) = ((10 : Int32)).toInt from by decide))); clear hc
  by_cases hc : x = (11 : Int32)
  · subst hc
    refine lv_tableIn (off := (639)) (tgt := 679) E.hx E.hb dL_law_40 (by decide) (by decide) rfl (by decide) ?_
    exact c_law_11 n hE hx hN E hX hbl hbA hA a_p1 a_p1in a_p1ou a_p1ru a_p1no a_p1fo a_p1rd a_p1rr a_p1pa a_p2 a_p3 pp sa v4 (st.1) (st.2.1) (st.2.2.1) (st.2.2.2.1) (st.2.2.2.2.1) (st.2.2.2.2.2.1) (st.2.2.2.2.2.2.1) (st.2.2.2.2.2.2.2.1) (st.2.2.2.2.2.2.2.2.1) (st.2.2.2.2.2.2.2.2.2.1) (st.2.2.2.2.2.2.2.2.2.2.1) (st.2.2.2.2.2.2.2.2.2.2.2) res hf H locs ls c0 s0 hc0 hs0 hW hl hgo
  have hn_11 : ¬ (x).toInt = 11 := fun z => hc (Int32.toInt_inj.mp (z.trans (show (11 : Int) = ((11 : Int32)).toInt from by decide))); clear hc
  by_cases hc : x = (12 : Int32)
  · subst hc
    refine lv_tableIn (off := (695)) (tgt := 735) E.hx E.hb dL_law_40 (by decide) (by decide) rfl (by decide) ?_
    exact c_law_12 n hE hx hN E hX hbl hbA hA a_p1 a_p1in a_p1ou a_p1ru a_p1no a_p1fo a_p1rd a_p1rr a_p1pa a_p2 a_p3 pp sa v4 (st.1) (st.2.1) (st.2.2.1) (st.2.2.2.1) (st.2.2.2.2.1) (st.2.2.2.2.2.1) (st.2.2.2.2.2.2.1) (st.2.2.2.2.2.2.2.1) (st.2.2.2.2.2.2.2.2.1) (st.2.2.2.2.2.2.2.2.2.1) (st.2.2.2.2.2.2.2.2.2.2.1) (st.2.2.2.2.2.2.2.2.2.2.2) res hf H locs ls c0 s0 hc0 hs0 hW hl hgo
  have hn_12 : ¬ (x).toInt = 12 := fun z => hc (Int32.toInt_inj.mp (z.trans (show (12 : Int) = ((12 : Int32)).toInt from by decide))); clear hc
  by_cases hc : x = (13 : Int32)
  · subst hc
    refine lv_tableIn (off := (708)) (tgt := 748) E.hx E.hb dL_law_40 (by decide) (by decide) rfl (by decide) ?_
    exact c_law_13 n hE hx hN E hX hbl hbA hA a_p1 a_p1in a_p1ou a_p1ru a_p1no a_p1fo a_p1rd a_p1rr a_p1pa a_p2 a_p3 pp sa v4 (st.1) (st.2.1) (st.2.2.1) (st.2.2.2.1) (st.2.2.2.2.1) (st.2.2.2.2.2.1) (st.2.2.2.2.2.2.1) (st.2.2.2.2.2.2.2.1) (st.2.2.2.2.2.2.2.2.1) (st.2.2.2.2.2.2.2.2.2.1) (st.2.2.2.2.2.2.2.2.2.2.1) (st.2.2.2.2.2.2.2.2.2.2.2) res hf H locs ls c0 s0 hc0 hs0 hW hl hgo
  have hn_13 : ¬ (x).toInt = 13 := fun z => hc (Int32.toInt_inj.mp (z.trans (show (13 : Int) = ((13 : Int32)).toInt from by decide))); clear hc
  by_cases hc : x = (14 : Int32)
  · subst hc
    refine lv_tableIn (off := (776)) (tgt := 816) E.hx E.hb dL_law_40 (by decide) (by decide) rfl (by decide) ?_
    exact c_law_14 n hE hx hN E hX hbl hbA hA a_p1 a_p1in a_p1ou a_p1ru a_p1no a_p1fo a_p1rd a_p1rr a_p1pa a_p2 a_p3 pp sa v4 (st.1) (st.2.1) (st.2.2.1) (st.2.2.2.1) (st.2.2.2.2.1) (st.2.2.2.2.2.1) (st.2.2.2.2.2.2.1) (st.2.2.2.2.2.2.2.1) (st.2.2.2.2.2.2.2.2.1) (st.2.2.2.2.2.2.2.2.2.1) (st.2.2.2.2.2.2.2.2.2.2.1) (st.2.2.2.2.2.2.2.2.2.2.2) res hf H locs ls c0 s0 hc0 hs0 hW hl hgo
  have hn_14 : ¬ (x).toInt = 14 := fun z => hc (Int32.toInt_inj.mp (z.trans (show (14 : Int) = ((14 : Int32)).toInt from by decide))); clear hc
  by_cases hc : x = (15 : Int32)
  · subst hc
    refine lv_tableIn (off := (832)) (tgt := 872) E.hx E.hb dL_law_40 (by decide) (by decide) rfl (by decide) ?_
    exact c_law_15 n hE hx hN E hX hbl hbA hA a_p1 a_p1in a_p1ou a_p1ru a_p1no a_p1fo a_p1rd a_p1rr a_p1pa a_p2 a_p3 pp sa v4 (st.1) (st.2.1) (st.2.2.1) (st.2.2.2.1) (st.2.2.2.2.1) (st.2.2.2.2.2.1) (st.2.2.2.2.2.2.1) (st.2.2.2.2.2.2.2.1) (st.2.2.2.2.2.2.2.2.1) (st.2.2.2.2.2.2.2.2.2.1) (st.2.2.2.2.2.2.2.2.2.2.1) (st.2.2.2.2.2.2.2.2.2.2.2) res hf H locs ls c0 s0 hc0 hs0 hW hl hgo
  have hn_15 : ¬ (x).toInt = 15 := fun z => hc (Int32.toInt_inj.mp (z.trans (show (15 : Int) = ((15 : Int32)).toInt from by decide))); clear hc
  by_cases hc : x = (16 : Int32)
  · subst hc
    refine lv_tableIn (off := (900)) (tgt := 940) E.hx E.hb dL_law_40 (by decide) (by decide) rfl (by decide) ?_
    exact c_law_16 n hE hx hN E hX hbl hbA hA a_p1 a_p1in a_p1ou a_p1ru a_p1no a_p1fo a_p1rd a_p1rr a_p1pa a_p2 a_p3 pp sa v4 (st.1) (st.2.1) (st.2.2.1) (st.2.2.2.1) (st.2.2.2.2.1) (st.2.2.2.2.2.1) (st.2.2.2.2.2.2.1) (st.2.2.2.2.2.2.2.1) (st.2.2.2.2.2.2.2.2.1) (st.2.2.2.2.2.2.2.2.2.1) (st.2.2.2.2.2.2.2.2.2.2.1) (st.2.2.2.2.2.2.2.2.2.2.2) res hf H locs ls c0 s0 hc0 hs0 hW hl hgo
  have hn_16 : ¬ (x).toInt = 16 := fun z => hc (Int32.toInt_inj.mp (z.trans (show (16 : Int) = ((16 : Int32)).toInt from by decide))); clear hc
  by_cases hc : x = (17 : Int32)
  · subst hc
    refine lv_tableIn (off := (956)) (tgt := 996) E.hx E.hb dL_law_40 (by decide) (by decide) rfl (by decide) ?_
    exact c_law_17 n hE hx hN E hX hbl hbA hA a_p1 a_p1in a_p1ou a_p1ru a_p1no a_p1fo a_p1rd a_p1rr a_p1pa a_p2 a_p3 pp sa v4 (st.1) (st.2.1) (st.2.2.1) (st.2.2.2.1) (st.2.2.2.2.1) (st.2.2.2.2.2.1) (st.2.2.2.2.2.2.1) (st.2.2.2.2.2.2.2.1) (st.2.2.2.2.2.2.2.2.1) (st.2.2.2.2.2.2.2.2.2.1) (st.2.2.2.2.2.2.2.2.2.2.1) (st.2.2.2.2.2.2.2.2.2.2.2) res hf H locs ls c0 s0 hc0 hs0 hW hl hgo
  have hn_17 : ¬ (x).toInt = 17 := fun z => hc (Int32.toInt_inj.mp (z.trans (show (17 : Int) = ((17 : Int32)).toInt from by decide))); clear hc
  by_cases hc : x = (18 : Int32)
  · subst hc
    refine lv_tableIn (off := (1031)) (tgt := 1071) E.hx E.hb dL_law_40 (by decide) (by decide) rfl (by decide) ?_
    exact c_law_18 n hE hx hN E hX hbl hbA hA a_p1 a_p1in a_p1ou a_p1ru a_p1no a_p1fo a_p1rd a_p1rr a_p1pa a_p2 a_p3 pp sa v4 (st.1) (st.2.1) (st.2.2.1) (st.2.2.2.1) (st.2.2.2.2.1) (st.2.2.2.2.2.1) (st.2.2.2.2.2.2.1) (st.2.2.2.2.2.2.2.1) (st.2.2.2.2.2.2.2.2.1) (st.2.2.2.2.2.2.2.2.2.1) (st.2.2.2.2.2.2.2.2.2.2.1) (st.2.2.2.2.2.2.2.2.2.2.2) res hf H locs ls c0 s0 hc0 hs0 hW hl hgo
  have hn_18 : ¬ (x).toInt = 18 := fun z => hc (Int32.toInt_inj.mp (z.trans (show (18 : Int) = ((18 : Int32)).toInt from by decide))); clear hc
  by_cases hc : x = (19 : Int32)
  · subst hc
    refine lv_tableIn (off := (1044)) (tgt := 1084) E.hx E.hb dL_law_40 (by decide) (by decide) rfl (by decide) ?_
    exact c_law_19 n hE hx hN E hX hbl hbA hA a_p1 a_p1in a_p1ou a_p1ru a_p1no a_p1fo a_p1rd a_p1rr a_p1pa a_p2 a_p3 pp sa v4 (st.1) (st.2.1) (st.2.2.1) (st.2.2.2.1) (st.2.2.2.2.1) (st.2.2.2.2.2.1) (st.2.2.2.2.2.2.1) (st.2.2.2.2.2.2.2.1) (st.2.2.2.2.2.2.2.2.1) (st.2.2.2.2.2.2.2.2.2.1) (st.2.2.2.2.2.2.2.2.2.2.1) (st.2.2.2.2.2.2.2.2.2.2.2) res hf H locs ls c0 s0 hc0 hs0 hW hl hgo
  have hn_19 : ¬ (x).toInt = 19 := fun z => hc (Int32.toInt_inj.mp (z.trans (show (19 : Int) = ((19 : Int32)).toInt from by decide))); clear hc
  by_cases hc : x = (20 : Int32)
  · subst hc
    refine lv_tableIn (off := (1057)) (tgt := 1097) E.hx E.hb dL_law_40 (by decide) (by decide) rfl (by decide) ?_
    exact c_law_20 n hE hx hN E hX hbl hbA hA a_p1 a_p1in a_p1ou a_p1ru a_p1no a_p1fo a_p1rd a_p1rr a_p1pa a_p2 a_p3 pp sa v4 (st.1) (st.2.1) (st.2.2.1) (st.2.2.2.1) (st.2.2.2.2.1) (st.2.2.2.2.2.1) (st.2.2.2.2.2.2.1) (st.2.2.2.2.2.2.2.1) (st.2.2.2.2.2.2.2.2.1) (st.2.2.2.2.2.2.2.2.2.1) (st.2.2.2.2.2.2.2.2.2.2.1) (st.2.2.2.2.2.2.2.2.2.2.2) res hf H locs ls c0 s0 hc0 hs0 hW hl hgo
  have hn_20 : ¬ (x).toInt = 20 := fun z => hc (Int32.toInt_inj.mp (z.trans (show (20 : Int) = ((20 : Int32)).toInt from by decide))); clear hc
  by_cases hc : x = (21 : Int32)
  · subst hc
    refine lv_tableIn (off := (1070)) (tgt := 1110) E.hx E.hb dL_law_40 (by decide) (by decide) rfl (by decide) ?_
    exact c_law_21 n hE hx hN E hX hbl hbA hA a_p1 a_p1in a_p1ou a_p1ru a_p1no a_p1fo a_p1rd a_p1rr a_p1pa a_p2 a_p3 pp sa v4 (st.1) (st.2.1) (st.2.2.1) (st.2.2.2.1) (st.2.2.2.2.1) (st.2.2.2.2.2.1) (st.2.2.2.2.2.2.1) (st.2.2.2.2.2.2.2.1) (st.2.2.2.2.2.2.2.2.1) (st.2.2.2.2.2.2.2.2.2.1) (st.2.2.2.2.2.2.2.2.2.2.1) (st.2.2.2.2.2.2.2.2.2.2.2) res hf H locs ls c0 s0 hc0 hs0 hW hl hgo
  have hn_21 : ¬ (x).toInt = 21 := fun z => hc (Int32.toInt_inj.mp (z.trans (show (21 : Int) = ((21 : Int32)).toInt from by decide))); clear hc
  by_cases hc : x = (22 : Int32)
  · subst hc
    refine lv_tableIn (off := (1083)) (tgt := 1123) E.hx E.hb dL_law_40 (by decide) (by decide) rfl (by decide) ?_
    exact c_law_22 n hE hx hN E hX hbl hbA hA a_p1 a_p1in a_p1ou a_p1ru a_p1no a_p1fo a_p1rd a_p1rr a_p1pa a_p2 a_p3 pp sa v4 (st.1) (st.2.1) (st.2.2.1) (st.2.2.2.1) (st.2.2.2.2.1) (st.2.2.2.2.2.1) (st.2.2.2.2.2.2.1) (st.2.2.2.2.2.2.2.1) (st.2.2.2.2.2.2.2.2.1) (st.2.2.2.2.2.2.2.2.2.1) (st.2.2.2.2.2.2.2.2.2.2.1) (st.2.2.2.2.2.2.2.2.2.2.2) res hf H locs ls c0 s0 hc0 hs0 hW hl hgo
  have hn_22 : ¬ (x).toInt = 22 := fun z => hc (Int32.toInt_inj.mp (z.trans (show (22 : Int) = ((22 : Int32)).toInt from by decide))); clear hc
  by_cases hc : x = (23 : Int32)
  · subst hc
    refine lv_tableIn (off := (1096)) (tgt := 1136) E.hx E.hb dL_law_40 (by decide) (by decide) rfl (by decide) ?_
    exact c_law_23 n hE hx hN E hX hbl hbA hA a_p1 a_p1in a_p1ou a_p1ru a_p1no a_p1fo a_p1rd a_p1rr a_p1pa a_p2 a_p3 pp sa v4 (st.1) (st.2.1) (st.2.2.1) (st.2.2.2.1) (st.2.2.2.2.1) (st.2.2.2.2.2.1) (st.2.2.2.2.2.2.1) (st.2.2.2.2.2.2.2.1) (st.2.2.2.2.2.2.2.2.1) (st.2.2.2.2.2.2.2.2.2.1) (st.2.2.2.2.2.2.2.2.2.2.1) (st.2.2.2.2.2.2.2.2.2.2.2) res hf H locs ls c0 s0 hc0 hs0 hW hl hgo
  have hn_23 : ¬ (x).toInt = 23 := fun z => hc (Int32.toInt_inj.mp (z.trans (show (23 : Int) = ((23 : Int32)).toInt from by decide))); clear hc
  by_cases hc : x = (24 : Int32)
  · subst hc
    refine lv_tableIn (off := (1137)) (tgt := 1177) E.hx E.hb dL_law_40 (by decide) (by decide) rfl (by decide) ?_
    exact c_law_24 n hE hx hN E hX hbl hbA hA a_p1 a_p1in a_p1ou a_p1ru a_p1no a_p1fo a_p1rd a_p1rr a_p1pa a_p2 a_p3 pp sa v4 (st.1) (st.2.1) (st.2.2.1) (st.2.2.2.1) (st.2.2.2.2.1) (st.2.2.2.2.2.1) (st.2.2.2.2.2.2.1) (st.2.2.2.2.2.2.2.1) (st.2.2.2.2.2.2.2.2.1) (st.2.2.2.2.2.2.2.2.2.1) (st.2.2.2.2.2.2.2.2.2.2.1) (st.2.2.2.2.2.2.2.2.2.2.2) res hf H locs ls c0 s0 hc0 hs0 hW hl hgo
  have hn_24 : ¬ (x).toInt = 24 := fun z => hc (Int32.toInt_inj.mp (z.trans (show (24 : Int) = ((24 : Int32)).toInt from by decide))); clear hc
  by_cases hc : x = (25 : Int32)
  · subst hc
    refine lv_tableIn (off := (1180)) (tgt := 1220) E.hx E.hb dL_law_40 (by decide) (by decide) rfl (by decide) ?_
    exact c_law_25 n hE hx hN E hX hbl hbA hA a_p1 a_p1in a_p1ou a_p1ru a_p1no a_p1fo a_p1rd a_p1rr a_p1pa a_p2 a_p3 pp sa v4 (st.1) (st.2.1) (st.2.2.1) (st.2.2.2.1) (st.2.2.2.2.1) (st.2.2.2.2.2.1) (st.2.2.2.2.2.2.1) (st.2.2.2.2.2.2.2.1) (st.2.2.2.2.2.2.2.2.1) (st.2.2.2.2.2.2.2.2.2.1) (st.2.2.2.2.2.2.2.2.2.2.1) (st.2.2.2.2.2.2.2.2.2.2.2) res hf H locs ls c0 s0 hc0 hs0 hW hl hgo
  have hn_25 : ¬ (x).toInt = 25 := fun z => hc (Int32.toInt_inj.mp (z.trans (show (25 : Int) = ((25 : Int32)).toInt from by decide))); clear hc
  by_cases hc : x = (26 : Int32)
  · subst hc
    refine lv_tableIn (off := (1236)) (tgt := 1276) E.hx E.hb dL_law_40 (by decide) (by decide) rfl (by decide) ?_
    exact c_law_26 n hE hx hN E hX hbl hbA hA a_p1 a_p1in a_p1ou a_p1ru a_p1no a_p1fo a_p1rd a_p1rr a_p1pa a_p2 a_p3 pp sa v4 (st.1) (st.2.1) (st.2.2.1) (st.2.2.2.1) (st.2.2.2.2.1) (st.2.2.2.2.2.1) (st.2.2.2.2.2.2.1) (st.2.2.2.2.2.2.2.1) (st.2.2.2.2.2.2.2.2.1) (st.2.2.2.2.2.2.2.2.2.1) (st.2.2.2.2.2.2.2.2.2.2.1) (st.2.2.2.2.2.2.2.2.2.2.2) res hf H locs ls c0 s0 hc0 hs0 hW hl hgo
  have hn_26 : ¬ (x).toInt = 26 := fun z => hc (Int32.toInt_inj.mp (z.trans (show (26 : Int) = ((26 : Int32)).toInt from by decide))); clear hc
  by_cases hc : x = (27 : Int32)
  · subst hc
    refine lv_tableIn (off := (1316)) (tgt := 1356) E.hx E.hb dL_law_40 (by decide) (by decide) rfl (by decide) ?_
    exact c_law_27 n hE hx hN E hX hbl hbA hA a_p1 a_p1in a_p1ou a_p1ru a_p1no a_p1fo a_p1rd a_p1rr a_p1pa a_p2 a_p3 pp sa v4 (st.1) (st.2.1) (st.2.2.1) (st.2.2.2.1) (st.2.2.2.2.1) (st.2.2.2.2.2.1) (st.2.2.2.2.2.2.1) (st.2.2.2.2.2.2.2.1) (st.2.2.2.2.2.2.2.2.1) (st.2.2.2.2.2.2.2.2.2.1) (st.2.2.2.2.2.2.2.2.2.2.1) (st.2.2.2.2.2.2.2.2.2.2.2) res hf H locs ls c0 s0 hc0 hs0 hW hl hgo
  have hn_27 : ¬ (x).toInt = 27 := fun z => hc (Int32.toInt_inj.mp (z.trans (show (27 : Int) = ((27 : Int32)).toInt from by decide))); clear hc
  by_cases hc : x = (28 : Int32)
  · subst hc
    refine lv_tableIn (off := (1372)) (tgt := 1412) E.hx E.hb dL_law_40 (by decide) (by decide) rfl (by decide) ?_
    exact c_law_28 n hE hx hN E hX hbl hbA hA a_p1 a_p1in a_p1ou a_p1ru a_p1no a_p1fo a_p1rd a_p1rr a_p1pa a_p2 a_p3 pp sa v4 (st.1) (st.2.1) (st.2.2.1) (st.2.2.2.1) (st.2.2.2.2.1) (st.2.2.2.2.2.1) (st.2.2.2.2.2.2.1) (st.2.2.2.2.2.2.2.1) (st.2.2.2.2.2.2.2.2.1) (st.2.2.2.2.2.2.2.2.2.1) (st.2.2.2.2.2.2.2.2.2.2.1) (st.2.2.2.2.2.2.2.2.2.2.2) res hf H locs ls c0 s0 hc0 hs0 hW hl hgo
  have hn_28 : ¬ (x).toInt = 28 := fun z => hc (Int32.toInt_inj.mp (z.trans (show (28 : Int) = ((28 : Int32)).toInt from by decide))); clear hc
  by_cases hc : x = (29 : Int32)
  · subst hc
    refine lv_tableIn (off := (1440)) (tgt := 1480) E.hx E.hb dL_law_40 (by decide) (by decide) rfl (by decide) ?_
    exact c_law_29 n hE hx hN E hX hbl hbA hA a_p1 a_p1in a_p1ou a_p1ru a_p1no a_p1fo a_p1rd a_p1rr a_p1pa a_p2 a_p3 pp sa v4 (st.1) (st.2.1) (st.2.2.1) (st.2.2.2.1) (st.2.2.2.2.1) (st.2.2.2.2.2.1) (st.2.2.2.2.2.2.1) (st.2.2.2.2.2.2.2.1) (st.2.2.2.2.2.2.2.2.1) (st.2.2.2.2.2.2.2.2.2.1) (st.2.2.2.2.2.2.2.2.2.2.1) (st.2.2.2.2.2.2.2.2.2.2.2) res hf H locs ls c0 s0 hc0 hs0 hW hl hgo
  have hn_29 : ¬ (x).toInt = 29 := fun z => hc (Int32.toInt_inj.mp (z.trans (show (29 : Int) = ((29 : Int32)).toInt from by decide))); clear hc
  by_cases hc : x = (30 : Int32)
  · subst hc
    refine lv_tableIn (off := (1508)) (tgt := 1548) E.hx E.hb dL_law_40 (by decide) (by decide) rfl (by decide) ?_
    exact c_law_30 n hE hx hN E hX hbl hbA hA a_p1 a_p1in a_p1ou a_p1ru a_p1no a_p1fo a_p1rd a_p1rr a_p1pa a_p2 a_p3 pp sa v4 (st.1) (st.2.1) (st.2.2.1) (st.2.2.2.1) (st.2.2.2.2.1) (st.2.2.2.2.2.1) (st.2.2.2.2.2.2.1) (st.2.2.2.2.2.2.2.1) (st.2.2.2.2.2.2.2.2.1) (st.2.2.2.2.2.2.2.2.2.1) (st.2.2.2.2.2.2.2.2.2.2.1) (st.2.2.2.2.2.2.2.2.2.2.2) res hf H locs ls c0 s0 hc0 hs0 hW hl hgo
  have hn_30 : ¬ (x).toInt = 30 := fun z => hc (Int32.toInt_inj.mp (z.trans (show (30 : Int) = ((30 : Int32)).toInt from by decide))); clear hc
  by_cases hc : x = (31 : Int32)
  · subst hc
    refine lv_tableIn (off := (1576)) (tgt := 1616) E.hx E.hb dL_law_40 (by decide) (by decide) rfl (by decide) ?_
    exact c_law_31 n hE hx hN E hX hbl hbA hA a_p1 a_p1in a_p1ou a_p1ru a_p1no a_p1fo a_p1rd a_p1rr a_p1pa a_p2 a_p3 pp sa v4 (st.1) (st.2.1) (st.2.2.1) (st.2.2.2.1) (st.2.2.2.2.1) (st.2.2.2.2.2.1) (st.2.2.2.2.2.2.1) (st.2.2.2.2.2.2.2.1) (st.2.2.2.2.2.2.2.2.1) (st.2.2.2.2.2.2.2.2.2.1) (st.2.2.2.2.2.2.2.2.2.2.1) (st.2.2.2.2.2.2.2.2.2.2.2) res hf H locs ls c0 s0 hc0 hs0 hW hl hgo
  have hn_31 : ¬ (x).toInt = 31 := fun z => hc (Int32.toInt_inj.mp (z.trans (show (31 : Int) = ((31 : Int32)).toInt from by decide))); clear hc
  by_cases hc : x = (32 : Int32)
  · subst hc
    refine lv_tableIn (off := (1632)) (tgt := 1672) E.hx E.hb dL_law_40 (by decide) (by decide) rfl (by decide) ?_
    exact c_law_32 n hE hx hN E hX hbl hbA hA a_p1 a_p1in a_p1ou a_p1ru a_p1no a_p1fo a_p1rd a_p1rr a_p1pa a_p2 a_p3 pp sa v4 (st.1) (st.2.1) (st.2.2.1) (st.2.2.2.1) (st.2.2.2.2.1) (st.2.2.2.2.2.1) (st.2.2.2.2.2.2.1) (st.2.2.2.2.2.2.2.1) (st.2.2.2.2.2.2.2.2.1) (st.2.2.2.2.2.2.2.2.2.1) (st.2.2.2.2.2.2.2.2.2.2.1) (st.2.2.2.2.2.2.2.2.2.2.2) res hf H locs ls c0 s0 hc0 hs0 hW hl hgo
  have hn_32 : ¬ (x).toInt = 32 := fun z => hc (Int32.toInt_inj.mp (z.trans (show (32 : Int) = ((32 : Int32)).toInt from by decide))); clear hc
  by_cases hc : x = (33 : Int32)
  · subst hc
    refine lv_tableIn (off := (1688)) (tgt := 1728) E.hx E.hb dL_law_40 (by decide) (by decide) rfl (by decide) ?_
    exact c_law_33 n hE hx hN E hX hbl hbA hA a_p1 a_p1in a_p1ou a_p1ru a_p1no a_p1fo a_p1rd a_p1rr a_p1pa a_p2 a_p3 pp sa v4 (st.1) (st.2.1) (st.2.2.1) (st.2.2.2.1) (st.2.2.2.2.1) (st.2.2.2.2.2.1) (st.2.2.2.2.2.2.1) (st.2.2.2.2.2.2.2.1) (st.2.2.2.2.2.2.2.2.1) (st.2.2.2.2.2.2.2.2.2.1) (st.2.2.2.2.2.2.2.2.2.2.1) (st.2.2.2.2.2.2.2.2.2.2.2) res hf H locs ls c0 s0 hc0 hs0 hW hl hgo
  have hn_33 : ¬ (x).toInt = 33 := fun z => hc (Int32.toInt_inj.mp (z.trans (show (33 : Int) = ((33 : Int32)).toInt from by decide))); clear hc
  by_cases hc : x = (34 : Int32)
  · subst hc
    refine lv_tableIn (off := (1732)) (tgt := 1772) E.hx E.hb dL_law_40 (by decide) (by decide) rfl (by decide) ?_
    exact c_law_34 n hE hx hN E hX hbl hbA hA a_p1 a_p1in a_p1ou a_p1ru a_p1no a_p1fo a_p1rd a_p1rr a_p1pa a_p2 a_p3 pp sa v4 (st.1) (st.2.1) (st.2.2.1) (st.2.2.2.1) (st.2.2.2.2.1) (st.2.2.2.2.2.1) (st.2.2.2.2.2.2.1) (st.2.2.2.2.2.2.2.1) (st.2.2.2.2.2.2.2.2.1) (st.2.2.2.2.2.2.2.2.2.1) (st.2.2.2.2.2.2.2.2.2.2.1) (st.2.2.2.2.2.2.2.2.2.2.2) res hf H locs ls c0 s0 hc0 hs0 hW hl hgo
  have hn_34 : ¬ (x).toInt = 34 := fun z => hc (Int32.toInt_inj.mp (z.trans (show (34 : Int) = ((34 : Int32)).toInt from by decide))); clear hc
  by_cases hc : x = (35 : Int32)
  · subst hc
    refine lv_tableIn (off := (1800)) (tgt := 1840) E.hx E.hb dL_law_40 (by decide) (by decide) rfl (by decide) ?_
    exact c_law_35 n hE hx hN E hX hbl hbA hA a_p1 a_p1in a_p1ou a_p1ru a_p1no a_p1fo a_p1rd a_p1rr a_p1pa a_p2 a_p3 pp sa v4 (st.1) (st.2.1) (st.2.2.1) (st.2.2.2.1) (st.2.2.2.2.1) (st.2.2.2.2.2.1) (st.2.2.2.2.2.2.1) (st.2.2.2.2.2.2.2.1) (st.2.2.2.2.2.2.2.2.1) (st.2.2.2.2.2.2.2.2.2.1) (st.2.2.2.2.2.2.2.2.2.2.1) (st.2.2.2.2.2.2.2.2.2.2.2) res hf H locs ls c0 s0 hc0 hs0 hW hl hgo
  have hn_35 : ¬ (x).toInt = 35 := fun z => hc (Int32.toInt_inj.mp (z.trans (show (35 : Int) = ((35 : Int32)).toInt from by decide))); clear hc
  by_cases hc : x = (36 : Int32)
  · subst hc
    refine lv_tableIn (off := (1868)) (tgt := 1908) E.hx E.hb dL_law_40 (by decide) (by decide) rfl (by decide) ?_
    exact c_law_36 n hE hx hN E hX hbl hbA hA a_p1 a_p1in a_p1ou a_p1ru a_p1no a_p1fo a_p1rd a_p1rr a_p1pa a_p2 a_p3 pp sa v4 (st.1) (st.2.1) (st.2.2.1) (st.2.2.2.1) (st.2.2.2.2.1) (st.2.2.2.2.2.1) (st.2.2.2.2.2.2.1) (st.2.2.2.2.2.2.2.1) (st.2.2.2.2.2.2.2.2.1) (st.2.2.2.2.2.2.2.2.2.1) (st.2.2.2.2.2.2.2.2.2.2.1) (st.2.2.2.2.2.2.2.2.2.2.2) res hf H locs ls c0 s0 hc0 hs0 hW hl hgo
  have hn_36 : ¬ (x).toInt = 36 := fun z => hc (Int32.toInt_inj.mp (z.trans (show (36 : Int) = ((36 : Int32)).toInt from by decide))); clear hc
  by_cases hc : x = (37 : Int32)
  · subst hc
    refine lv_tableIn (off := (1924)) (tgt := 1964) E.hx E.hb dL_law_40 (by decide) (by decide) rfl (by decide) ?_
    exact c_law_37 n hE hx hN E hX hbl hbA hA a_p1 a_p1in a_p1ou a_p1ru a_p1no a_p1fo a_p1rd a_p1rr a_p1pa a_p2 a_p3 pp sa v4 (st.1) (st.2.1) (st.2.2.1) (st.2.2.2.1) (st.2.2.2.2.1) (st.2.2.2.2.2.1) (st.2.2.2.2.2.2.1) (st.2.2.2.2.2.2.2.1) (st.2.2.2.2.2.2.2.2.1) (st.2.2.2.2.2.2.2.2.2.1) (st.2.2.2.2.2.2.2.2.2.2.1) (st.2.2.2.2.2.2.2.2.2.2.2) res hf H locs ls c0 s0 hc0 hs0 hW hl hgo
  have hn_37 : ¬ (x).toInt = 37 := fun z => hc (Int32.toInt_inj.mp (z.trans (show (37 : Int) = ((37 : Int32)).toInt from by decide))); clear hc
  by_cases hc : x = (38 : Int32)
  · subst hc
    refine lv_tableIn (off := (1980)) (tgt := 2020) E.hx E.hb dL_law_40 (by decide) (by decide) rfl (by decide) ?_
    exact c_law_38 n hE hx hN E hX hbl hbA hA a_p1 a_p1in a_p1ou a_p1ru a_p1no a_p1fo a_p1rd a_p1rr a_p1pa a_p2 a_p3 pp sa v4 (st.1) (st.2.1) (st.2.2.1) (st.2.2.2.1) (st.2.2.2.2.1) (st.2.2.2.2.2.1) (st.2.2.2.2.2.2.1) (st.2.2.2.2.2.2.2.1) (st.2.2.2.2.2.2.2.2.1) (st.2.2.2.2.2.2.2.2.2.1) (st.2.2.2.2.2.2.2.2.2.2.1) (st.2.2.2.2.2.2.2.2.2.2.2) res hf H locs ls c0 s0 hc0 hs0 hW hl hgo
  have hn_38 : ¬ (x).toInt = 38 := fun z => hc (Int32.toInt_inj.mp (z.trans (show (38 : Int) = ((38 : Int32)).toInt from by decide))); clear hc
  by_cases hc : x = (39 : Int32)
  · subst hc
    refine lv_tableIn (off := (2036)) (tgt := 2076) E.hx E.hb dL_law_40 (by decide) (by decide) rfl (by decide) ?_
    exact c_law_39 n hE hx hN E hX hbl hbA hA a_p1 a_p1in a_p1ou a_p1ru a_p1no a_p1fo a_p1rd a_p1rr a_p1pa a_p2 a_p3 pp sa v4 (st.1) (st.2.1) (st.2.2.1) (st.2.2.2.1) (st.2.2.2.2.1) (st.2.2.2.2.2.1) (st.2.2.2.2.2.2.1) (st.2.2.2.2.2.2.2.1) (st.2.2.2.2.2.2.2.2.1) (st.2.2.2.2.2.2.2.2.2.1) (st.2.2.2.2.2.2.2.2.2.2.1) (st.2.2.2.2.2.2.2.2.2.2.2) res hf H locs ls c0 s0 hc0 hs0 hW hl hgo
  have hn_39 : ¬ (x).toInt = 39 := fun z => hc (Int32.toInt_inj.mp (z.trans (show (39 : Int) = ((39 : Int32)).toInt from by decide))); clear hc
  by_cases hc : x = (40 : Int32)
  · subst hc
    refine lv_tableIn (off := (2116)) (tgt := 2156) E.hx E.hb dL_law_40 (by decide) (by decide) rfl (by decide) ?_
    exact c_law_40 n hE hx hN E hX hbl hbA hA a_p1 a_p1in a_p1ou a_p1ru a_p1no a_p1fo a_p1rd a_p1rr a_p1pa a_p2 a_p3 pp sa v4 (st.1) (st.2.1) (st.2.2.1) (st.2.2.2.1) (st.2.2.2.2.1) (st.2.2.2.2.2.1) (st.2.2.2.2.2.2.1) (st.2.2.2.2.2.2.2.1) (st.2.2.2.2.2.2.2.2.1) (st.2.2.2.2.2.2.2.2.2.1) (st.2.2.2.2.2.2.2.2.2.2.1) (st.2.2.2.2.2.2.2.2.2.2.2) res hf H locs ls c0 s0 hc0 hs0 hW hl hgo
  have hn_40 : ¬ (x).toInt = 40 := fun z => hc (Int32.toInt_inj.mp (z.trans (show (40 : Int) = ((40 : Int32)).toInt from by decide))); clear hc
  by_cases hc : x = (41 : Int32)
  · subst hc
    refine lv_tableIn (off := (2172)) (tgt := 2212) E.hx E.hb dL_law_40 (by decide) (by decide) rfl (by decide) ?_
    exact c_law_41 n hE hx hN E hX hbl hbA hA a_p1 a_p1in a_p1ou a_p1ru a_p1no a_p1fo a_p1rd a_p1rr a_p1pa a_p2 a_p3 pp sa v4 (st.1) (st.2.1) (st.2.2.1) (st.2.2.2.1) (st.2.2.2.2.1) (st.2.2.2.2.2.1) (st.2.2.2.2.2.2.1) (st.2.2.2.2.2.2.2.1) (st.2.2.2.2.2.2.2.2.1) (st.2.2.2.2.2.2.2.2.2.1) (st.2.2.2.2.2.2.2.2.2.2.1) (st.2.2.2.2.2.2.2.2.2.2.2) res hf H locs ls c0 s0 hc0 hs0 hW hl hgo
  have hn_41 : ¬ (x).toInt = 41 := fun z => hc (Int32.toInt_inj.mp (z.trans (show (41 : Int) = ((41 : Int32)).toInt from by decide))); clear hc
  by_cases hc : x = (42 : Int32)
  · subst hc
    refine lv_tableIn (off := (2240)) (tgt := 2280) E.hx E.hb dL_law_40 (by decide) (by decide) rfl (by decide) ?_
    exact c_law_42 n hE hx hN E hX hbl hbA hA a_p1 a_p1in a_p1ou a_p1ru a_p1no a_p1fo a_p1rd a_p1rr a_p1pa a_p2 a_p3 pp sa v4 (st.1) (st.2.1) (st.2.2.1) (st.2.2.2.1) (st.2.2.2.2.1) (st.2.2.2.2.2.1) (st.2.2.2.2.2.2.1) (st.2.2.2.2.2.2.2.1) (st.2.2.2.2.2.2.2.2.1) (st.2.2.2.2.2.2.2.2.2.1) (st.2.2.2.2.2.2.2.2.2.2.1) (st.2.2.2.2.2.2.2.2.2.2.2) res hf H locs ls c0 s0 hc0 hs0 hW hl hgo
  have hn_42 : ¬ (x).toInt = 42 := fun z => hc (Int32.toInt_inj.mp (z.trans (show (42 : Int) = ((42 : Int32)).toInt from by decide))); clear hc
  by_cases hc : x = (43 : Int32)
  · subst hc
    refine lv_tableIn (off := (2296)) (tgt := 2336) E.hx E.hb dL_law_40 (by decide) (by decide) rfl (by decide) ?_
    exact c_law_43 n hE hx hN E hX hbl hbA hA a_p1 a_p1in a_p1ou a_p1ru a_p1no a_p1fo a_p1rd a_p1rr a_p1pa a_p2 a_p3 pp sa v4 (st.1) (st.2.1) (st.2.2.1) (st.2.2.2.1) (st.2.2.2.2.1) (st.2.2.2.2.2.1) (st.2.2.2.2.2.2.1) (st.2.2.2.2.2.2.2.1) (st.2.2.2.2.2.2.2.2.1) (st.2.2.2.2.2.2.2.2.2.1) (st.2.2.2.2.2.2.2.2.2.2.1) (st.2.2.2.2.2.2.2.2.2.2.2) res hf H locs ls c0 s0 hc0 hs0 hW hl hgo
  have hn_43 : ¬ (x).toInt = 43 := fun z => hc (Int32.toInt_inj.mp (z.trans (show (43 : Int) = ((43 : Int32)).toInt from by decide))); clear hc
  by_cases hc : x = (44 : Int32)
  · subst hc
    refine lv_tableIn (off := (2352)) (tgt := 2392) E.hx E.hb dL_law_40 (by decide) (by decide) rfl (by decide) ?_
    exact c_law_44 n hE hx hN E hX hbl hbA hA a_p1 a_p1in a_p1ou a_p1ru a_p1no a_p1fo a_p1rd a_p1rr a_p1pa a_p2 a_p3 pp sa v4 (st.1) (st.2.1) (st.2.2.1) (st.2.2.2.1) (st.2.2.2.2.1) (st.2.2.2.2.2.1) (st.2.2.2.2.2.2.1) (st.2.2.2.2.2.2.2.1) (st.2.2.2.2.2.2.2.2.1) (st.2.2.2.2.2.2.2.2.2.1) (st.2.2.2.2.2.2.2.2.2.2.1) (st.2.2.2.2.2.2.2.2.2.2.2) res hf H locs ls c0 s0 hc0 hs0 hW hl hgo
  have hn_44 : ¬ (x).toInt = 44 := fun z => hc (Int32.toInt_inj.mp (z.trans (show (44 : Int) = ((44 : Int32)).toInt from by decide))); clear hc
  by_cases hc : x = (45 : Int32)
  · subst hc
    refine lv_tableIn (off := (2377)) (tgt := 2417) E.hx E.hb dL_law_40 (by decide) (by decide) rfl (by decide) ?_
    exact c_law_45 n hE hx hN E hX hbl hbA hA a_p1 a_p1in a_p1ou a_p1ru a_p1no a_p1fo a_p1rd a_p1rr a_p1pa a_p2 a_p3 pp sa v4 (st.1) (st.2.1) (st.2.2.1) (st.2.2.2.1) (st.2.2.2.2.1) (st.2.2.2.2.2.1) (st.2.2.2.2.2.2.1) (st.2.2.2.2.2.2.2.1) (st.2.2.2.2.2.2.2.2.1) (st.2.2.2.2.2.2.2.2.2.1) (st.2.2.2.2.2.2.2.2.2.2.1) (st.2.2.2.2.2.2.2.2.2.2.2) res hf H locs ls c0 s0 hc0 hs0 hW hl hgo
  have hn_45 : ¬ (x).toInt = 45 := fun z => hc (Int32.toInt_inj.mp (z.trans (show (45 : Int) = ((45 : Int32)).toInt from by decide))); clear hc
  by_cases hc : x = (46 : Int32)
  · subst hc
    refine lv_tableIn (off := (2390)) (tgt := 2430) E.hx E.hb dL_law_40 (by decide) (by decide) rfl (by decide) ?_
    exact c_law_46 n hE hx hN E hX hbl hbA hA a_p1 a_p1in a_p1ou a_p1ru a_p1no a_p1fo a_p1rd a_p1rr a_p1pa a_p2 a_p3 pp sa v4 (st.1) (st.2.1) (st.2.2.1) (st.2.2.2.1) (st.2.2.2.2.1) (st.2.2.2.2.2.1) (st.2.2.2.2.2.2.1) (st.2.2.2.2.2.2.2.1) (st.2.2.2.2.2.2.2.2.1) (st.2.2.2.2.2.2.2.2.2.1) (st.2.2.2.2.2.2.2.2.2.2.1) (st.2.2.2.2.2.2.2.2.2.2.2) res hf H locs ls c0 s0 hc0 hs0 hW hl hgo
  have hn_46 : ¬ (x).toInt = 46 := fun z => hc (Int32.toInt_inj.mp (z.trans (show (46 : Int) = ((46 : Int32)).toInt from by decide))); clear hc
  exfalso; omega
theorem and63 (x : Int32) : 0 ≤ (x &&& 63).toInt := by
  obtain ⟨j, hj, e⟩ := pk_andE x (m := 63) 6 (by decide)
  rw [e, nI_toInt (by omega)]
  omega
set_option maxHeartbeats 4000000 in
set_option maxRecDepth 100000 in
/-- the law's loop, from its head -/
theorem c_law_loop {p : Program} {l : Launch} {e : Env} {s : State} {m : MethodId} {below : List Frame} {meth : Method} {c : Code} {A : Nat → Prop} {Q : State → Prop} {b L : Nat} {xs : Nat → Int32} {k : KT} (n : Nat) (hL : L ≤ 3072) (hE : EH k) (hx : XH l k) (hN : CCH k) (E : E0 p s m c cL_law 9 RL k A) (hX : va_X b L xs s s.heap) (hbl : b < s.heap.size) (hbA : ¬ A b) (hA : ∀ q : Nat, s.heap.size ≤ q → A q) (a_p1 a_p1in a_p1ou a_p1ru a_p1no a_p1fo a_p1rd a_p1rr a_p1pa a_p2 a_p3 : Nat → Nat)
    (hend : ∀ (H : Heap) (locs : List Loc) (ls : Array Slot) (cells slots : Nat), cells ≤ 601024 → slots ≤ 7293034 → va_S A s.heap H locs → W p l e room_1 s m #[Value.ref b] below meth c H locs cells slots Q (F0 m 2480 ls [])) :
    ∀ (N t : Nat) (st : LST) (pp : Nat → Nat → Nat) (sa : Nat → Nat) (H : Heap) (locs : List Loc) (ls : Array Slot) (cells slots : Nat), Lgood n L xs N (nI (6 * t)) st → t ≤ 512 → cells ≤ 100 + 40 * t → slots ≤ 60000 + 8000 * t → WD k A s.heap (LW k a_p1 a_p1in a_p1ou a_p1ru a_p1no a_p1fo a_p1rd a_p1rr a_p1pa a_p2 a_p3 pp sa st) H locs → lv_has ls 9 [(0, .ref b), (1, .ref (a_p1 0)), (2, .ref (a_p2 0)), (3, .ref (a_p3 0)), (4, .int (nI (6 * t)))] → W p l e room_1 s m #[Value.ref b] below meth c H locs cells slots Q (F0 m 23 ls []) := by
  intro N
  induction N with
  | zero => intro t st pp sa H locs ls cells slots hf; exact hf.elim
  | succ N ih =>
    intro t st pp sa H locs ls cells slots hf ht hc hs hW hl
    refine k_iload E hl 4 dL_law_23 rfl ?_
    refine k_aload_n E hl 0 dL_law_25 rfl ?_
    refine va_slen E.hx E.hb hX hbl hbA hW.2.2 dL_law_26 ?_
    refine lv_bipush (v := (6 : Int32)) E.hx E.hb dL_law_27 bp_6 ?_
    refine lv_isub E.hx E.hb dL_law_29 ?_
    refine lv_icmp_gt (tgt := 2480) E.hx E.hb dL_law_30 (by decide) (fun hgt => ?_) (fun hgt => ?_)
    · exact hend H locs ls cells slots (by omega) (by omega) hW.2.2
    · rcases hf with hf | ⟨-, hin, hsv⟩
      · exact absurd hf hgt
      · obtain ⟨st', hst, hgd⟩ := hsv (svV sa (st.2.2.2.2.2.2.2.2.2.2.2))
        have hlt : 6 * t < L := by
          obtain ⟨j, hj, e9⟩ := vp_in_of hin (by omega)
          have := (nI_eq (by omega) (by omega)).mp e9
          omega
        refine k_aload_n E hl 0 dL_law_33 rfl ?_
        refine k_iload E hl 4 dL_law_34 rfl ?_
        refine va_sld E.hx E.hb hX hbl hbA hW.2.2 hin dL_law_36 ?_
        refine lv_bipush (v := (63 : Int32)) E.hx E.hb dL_law_37 bp_63 ?_
        refine lv_iand E.hx E.hb dL_law_39 ?_
        refine W.widen (k := 100 + 40 * t) (n := 60000 + 8000 * t) hc hs ?_
        refine c_law_switch n hE hx hN E hX hbl hbA hA a_p1 a_p1in a_p1ou a_p1ru a_p1no a_p1fo a_p1rd a_p1rr a_p1pa a_p2 a_p3 pp sa (nI (6 * t)) st st' _ (and63 _) hst H locs ls _ _ (by omega) (by omega) hW hl (fun pp sa H locs ls cells slots hc hs hW hl => ?_)
        refine k_iinc (x' := nI (6 * (t + 1))) (lv' := [(4, .int (nI (6 * (t + 1)))), (0, .ref b), (1, .ref (a_p1 0)), (2, .ref (a_p2 0)), (3, .ref (a_p3 0))]) E hl 4 dL_law_2474 rfl ?_ (by decide) rfl (fun ls hl => ?_)
        · show nI (6 * (t + 1)) = nI (6 * t) + Int32.ofInt 6
          rw [show Int32.ofInt 6 = nI 6 from by decide, nI_add]
          rfl
        · refine lv_goto (tgt := 23) E.hx E.hb dL_law_2477 (by decide) ?_
          refine ih (t + 1) st' pp sa H locs ls cells slots ?_ (by omega) (by omega) (by omega) hW (lv_sub hl [1, 2, 3, 4, 0] rfl)
          have e2 : nI (6 * t) + (6 : Int32) = nI (6 * (t + 1)) := by
            rw [show (6 : Int32) = nI 6 from rfl, nI_add]
            rfl
          rw [← e2]
          exact hgd
