/-! the model of the other claim, as plain functions -/
def j_X1_putNumber_17 (n : Nat) (z_th : Nat) (w1_j3 : Int32) (rc_3 : (OS) → (Int32) → Option (OS)) (th_j17 : OS) (w2_j17 : Int32) : Option (OS) :=
  oN (w2_j17 = 0) (
  bnd (f_X1_put n z_th th_j17 ((48 : Int32) + (rm32 (w1_j3 / w2_j17) (10 : Int32)))) (fun (th_1 : OS) =>
  Let (w2_j17 / (10 : Int32)) (fun v2_2 : Int32 =>
  rc_3 th_1 v2_2)))
def s_X1_putNumber_3 (n : Nat) (z_th : Nat) (w1_j3 : Int32) (rc_3 : (OS) → (Int32) → Option (OS)) (th_j3 : OS) (w2_j3 : Int32) : Option (OS) :=
  if w2_j3 ≤ 0 then (
  some th_j3) else (
  if w2_j3 ≤ w1_j3 then (
  j_X1_putNumber_17 n z_th w1_j3 rc_3 th_j3 w2_j3) else (
  if w2_j3 = (1 : Int32) then (
  j_X1_putNumber_17 n z_th w1_j3 rc_3 th_j3 w2_j3) else (
  Let (w2_j3 / (10 : Int32)) (fun v2_3 : Int32 =>
  rc_3 th_j3 v2_3))))
def l_X1_putNumber_3 (n : Nat) (z_th : Nat) (w1_j3 : Int32) : Nat → (OS) → (Int32) → Option (OS)
  | 0 => fun _ _ => none
  | N + 1 => s_X1_putNumber_3 n z_th w1_j3 (l_X1_putNumber_3 n z_th w1_j3 N)
def f_X1_putNumber (n : Nat) (z_th : Nat) (th_0 : OS) (v1_0 : Int32) : Option (OS) :=
  l_X1_putNumber_3 n z_th v1_0 n th_0 (1000000000 : Int32)
def s_X5_printName_19 (n : Nat) (z_p2 : Nat) (th_0 : OS) (w1_j19 : Int32) (w3_j19 : Int32) (rc_19 : (OS) → (Int32) → Option (OS)) (p2_j19 : OS) (w4_j19 : Int32) : Option (OS) :=
  if w3_j19 ≤ w4_j19 then (
  some p2_j19) else (
  bnd (f_X6_get n (7 : Int32) 56 (th_0.2.1 7) w1_j19 w4_j19) (fun (r_3 : Int32) =>
  bnd (f_X1_put n z_p2 p2_j19 r_3) (fun (p2_4 : OS) =>
  Let (w4_j19 + (1 : Int32)) (fun v4_5 : Int32 =>
  rc_19 p2_4 v4_5))))
def l_X5_printName_19 (n : Nat) (z_p2 : Nat) (th_0 : OS) (w1_j19 : Int32) (w3_j19 : Int32) : Nat → (OS) → (Int32) → Option (OS)
  | 0 => fun _ _ => none
  | N + 1 => s_X5_printName_19 n z_p2 th_0 w1_j19 w3_j19 (l_X5_printName_19 n z_p2 th_0 w1_j19 w3_j19 N)
def f_X5_printName (n : Nat) (th_0 : OS) (z_p2 : Nat) (p2_0 : OS) (v1_0 : Int32) : Option (OS) :=
  bnd (f_X6_get n (7 : Int32) 56 (th_0.2.1 7) v1_0 (6 : Int32)) (fun (r_1 : Int32) =>
  Let (if r_1 < (6 : Int32) then r_1 else (6 : Int32)) (fun v3_2 : Int32 =>
  l_X5_printName_19 n z_p2 th_0 v1_0 v3_2 n p2_0 (0 : Int32)))
def j_X5_hearingAfter_24 (n : Nat) (th_0 : OS) (s0_j24 : Int32) : Option (Int32) :=
  if (2000 : Int32) < s0_j24 then (
  some (-1 : Int32)) else (
  some s0_j24)
def f_X5_hearingAfter (n : Nat) (th_0 : OS) (v1_0 : Int32) : Option (Int32) :=
  if (th_0.1 2) ≤ 0 then (
  j_X5_hearingAfter_24 n th_0 (-1 : Int32)) else (
  oN ((th_0.1 2) = 0) (
  j_X5_hearingAfter_24 n th_0 (((v1_0 / (th_0.1 2)) + (1 : Int32)) * (th_0.1 2))))
def j_X2_longestRow_45 (n : Nat) (th_0 : OS) (w1_j18 : Int32) (w5_j18 : Int32) (rc_18 : (Int32) → (Int32) → (Int32) → Option (Int32)) (w2_j45 : Int32) (w6_j45 : Int32) (s0_j45 : Int32) : Option (Int32) :=
  Let (if w2_j45 < s0_j45 then s0_j45 else w2_j45) (fun v2_2 : Int32 =>
  Let (w6_j45 + (1 : Int32)) (fun v6_3 : Int32 =>
  rc_18 v2_2 s0_j45 v6_3))
def s_X2_longestRow_18 (n : Nat) (th_0 : OS) (w1_j18 : Int32) (w5_j18 : Int32) (rc_18 : (Int32) → (Int32) → (Int32) → Option (Int32)) (w2_j18 : Int32) (w3_j18 : Int32) (w6_j18 : Int32) : Option (Int32) :=
  if w5_j18 ≤ w6_j18 then (
  some w2_j18) else (
  gI 64 w6_j18 (Let ((th_0.2.1 10) w6_j18.toNatClampNeg) (fun x_1 : Int32 =>
  if x_1 = w1_j18 then (
  j_X2_longestRow_45 n th_0 w1_j18 w5_j18 rc_18 w2_j18 w6_j18 (w3_j18 + (1 : Int32))) else (
  j_X2_longestRow_45 n th_0 w1_j18 w5_j18 rc_18 w2_j18 w6_j18 (0 : Int32)))))
def l_X2_longestRow_18 (n : Nat) (th_0 : OS) (w1_j18 : Int32) (w5_j18 : Int32) : Nat → (Int32) → (Int32) → (Int32) → Option (Int32)
  | 0 => fun _ _ _ => none
  | N + 1 => s_X2_longestRow_18 n th_0 w1_j18 w5_j18 (l_X2_longestRow_18 n th_0 w1_j18 w5_j18 N)
def f_X2_longestRow (n : Nat) (th_0 : OS) (v1_0 : Int32) : Option (Int32) :=
  l_X2_longestRow_18 n th_0 v1_0 (64 : Int32) n (0 : Int32) (0 : Int32) (0 : Int32)
def s_X2_latestFines_4 (n : Nat) (th_0 : OS) (w1_j4 : Int32) (rc_4 : (Int32) → (Int32) → Option (Int32)) (w2_j4 : Int32) (w3_j4 : Int32) : Option (Int32) :=
  if (th_0.1 3) ≤ w3_j4 then (
  some w2_j4) else (
  bnd (f_X2_isLoanOf n th_0 w3_j4 w1_j4) (fun (r_1 : Int32) =>
  if r_1 = 0 then (
  Let (w3_j4 + (1 : Int32)) (fun v3_2 : Int32 =>
  rc_4 w2_j4 v3_2)) else (
  bnd (f_X6_get n (8 : Int32) 640 (th_0.2.1 12) w3_j4 (5 : Int32)) (fun (r_3 : Int32) =>
  Let (w2_j4 + r_3) (fun v2_4 : Int32 =>
  Let (w3_j4 + (1 : Int32)) (fun v3_5 : Int32 =>
  rc_4 v2_4 v3_5))))))
def l_X2_latestFines_4 (n : Nat) (th_0 : OS) (w1_j4 : Int32) : Nat → (Int32) → (Int32) → Option (Int32)
  | 0 => fun _ _ => none
  | N + 1 => s_X2_latestFines_4 n th_0 w1_j4 (l_X2_latestFines_4 n th_0 w1_j4 N)
def f_X2_latestFines (n : Nat) (th_0 : OS) (v1_0 : Int32) : Option (Int32) :=
  l_X2_latestFines_4 n th_0 v1_0 n (0 : Int32) (0 : Int32)
def s_X2_lateness_4 (n : Nat) (th_0 : OS) (rc_4 : (Int32) → (Int32) → Option (Int32)) (w1_j4 : Int32) (w2_j4 : Int32) : Option (Int32) :=
  if (th_0.1 3) ≤ w2_j4 then (
  some w1_j4) else (
  bnd (f_X2_isBroken n th_0 w2_j4) (fun (r_1 : Int32) =>
  if r_1 = 0 then (
  Let (w2_j4 + (1 : Int32)) (fun v2_2 : Int32 =>
  rc_4 w1_j4 v2_2)) else (
  bnd (f_X6_get n (8 : Int32) 640 (th_0.2.1 12) w2_j4 (2 : Int32)) (fun (r_3 : Int32) =>
  Let (w1_j4 + ((th_0.1 0) - r_3)) (fun v1_4 : Int32 =>
  Let (w2_j4 + (1 : Int32)) (fun v2_5 : Int32 =>
  rc_4 v1_4 v2_5))))))
def l_X2_lateness_4 (n : Nat) (th_0 : OS) : Nat → (Int32) → (Int32) → Option (Int32)
  | 0 => fun _ _ => none
  | N + 1 => s_X2_lateness_4 n th_0 (l_X2_lateness_4 n th_0 N)
def f_X2_lateness (n : Nat) (th_0 : OS) : Option (Int32) :=
  l_X2_lateness_4 n th_0 n (0 : Int32) (0 : Int32)
def s_X2_printLoans_2 (n : Nat) (z_p2 : Nat) (th_0 : OS) (w1_j2 : Int32) (rc_2 : (OS) → (Int32) → Option (OS)) (p2_j2 : OS) (w3_j2 : Int32) : Option (OS) :=
  if (th_0.1 3) ≤ w3_j2 then (
  some p2_j2) else (
  bnd (f_X2_isOpen n th_0 w3_j2) (fun (r_1 : Int32) =>
  if r_1 = 0 then (
  Let (w3_j2 + (1 : Int32)) (fun v3_2 : Int32 =>
  rc_2 p2_j2 v3_2)) else (
  bnd (f_X2_isLoanOf n th_0 w3_j2 w1_j2) (fun (r_3 : Int32) =>
  if r_3 = 0 then (
  Let (w3_j2 + (1 : Int32)) (fun v3_4 : Int32 =>
  rc_2 p2_j2 v3_4)) else (
  bnd (f_X1_put n z_p2 p2_j2 (32 : Int32)) (fun (p2_5 : OS) =>
  bnd (f_X6_get n (8 : Int32) 640 (th_0.2.1 12) w3_j2 (1 : Int32)) (fun (r_6 : Int32) =>
  bnd (f_X1_putNumber n z_p2 p2_5 r_6) (fun (p2_7 : OS) =>
  bnd (f_X1_put n z_p2 p2_7 (64 : Int32)) (fun (p2_8 : OS) =>
  bnd (f_X6_get n (8 : Int32) 640 (th_0.2.1 12) w3_j2 (2 : Int32)) (fun (r_9 : Int32) =>
  bnd (f_X1_putNumber n z_p2 p2_8 r_9) (fun (p2_10 : OS) =>
  bnd (f_X2_isBroken n th_0 w3_j2) (fun (r_11 : Int32) =>
  if r_11 = 0 then (
  Let (w3_j2 + (1 : Int32)) (fun v3_12 : Int32 =>
  rc_2 p2_10 v3_12)) else (
  bnd (f_X1_put n z_p2 p2_10 (33 : Int32)) (fun (p2_13 : OS) =>
  Let (w3_j2 + (1 : Int32)) (fun v3_14 : Int32 =>
  rc_2 p2_13 v3_14)))))))))))))))
def l_X2_printLoans_2 (n : Nat) (z_p2 : Nat) (th_0 : OS) (w1_j2 : Int32) : Nat → (OS) → (Int32) → Option (OS)
  | 0 => fun _ _ => none
  | N + 1 => s_X2_printLoans_2 n z_p2 th_0 w1_j2 (l_X2_printLoans_2 n z_p2 th_0 w1_j2 N)
def f_X2_printLoans (n : Nat) (th_0 : OS) (z_p2 : Nat) (p2_0 : OS) (v1_0 : Int32) : Option (OS) :=
  l_X2_printLoans_2 n z_p2 th_0 v1_0 n p2_0 (0 : Int32)
def s_X2_greatestRecord_7 (n : Nat) (th_0 : OS) (w1_j7 : Int32) (rc_7 : (Int32) → (Int32) → (Int32) → Option (Int32)) (w2_j7 : Int32) (w3_j7 : Int32) (w4_j7 : Int32) : Option (Int32) :=
  if w1_j7 ≤ w4_j7 then (
  some w2_j7) else (
  bnd (f_X6_get n (5 : Int32) 40 (th_0.2.1 11) w4_j7 (0 : Int32)) (fun (r_1 : Int32) =>
  if r_1 ≤ w3_j7 then (
  Let (w4_j7 + (1 : Int32)) (fun v4_2 : Int32 =>
  rc_7 w2_j7 w3_j7 v4_2)) else (
  bnd (f_X6_get n (5 : Int32) 40 (th_0.2.1 11) w4_j7 (0 : Int32)) (fun (r_3 : Int32) =>
  Let (w4_j7 + (1 : Int32)) (fun v4_4 : Int32 =>
  rc_7 w4_j7 r_3 v4_4)))))
def l_X2_greatestRecord_7 (n : Nat) (th_0 : OS) (w1_j7 : Int32) : Nat → (Int32) → (Int32) → (Int32) → Option (Int32)
  | 0 => fun _ _ _ => none
  | N + 1 => s_X2_greatestRecord_7 n th_0 w1_j7 (l_X2_greatestRecord_7 n th_0 w1_j7 N)
def f_X2_greatestRecord (n : Nat) (th_0 : OS) (v1_0 : Int32) : Option (Int32) :=
  l_X2_greatestRecord_7 n th_0 v1_0 n (-1 : Int32) (0 : Int32) (0 : Int32)
def f_X2_isRenewable (n : Nat) (th_0 : OS) (v1_0 : Int32) : Option (Int32) :=
  bnd (f_X6_get n (8 : Int32) 640 (th_0.2.1 12) v1_0 (0 : Int32)) (fun (r_1 : Int32) =>
  bnd (f_X2_isOpen n th_0 v1_0) (fun (r_2 : Int32) =>
  if r_2 = 0 then (
  some (0 : Int32)) else (
  bnd (f_X2_isBroken n th_0 v1_0) (fun (r_3 : Int32) =>
  if r_3 = 0 then (
  bnd (f_X6_get n (5 : Int32) 40 (th_0.2.1 11) r_1 (0 : Int32)) (fun (r_4 : Int32) =>
  if r_4 = 0 then (
  bnd (f_X2_claimsThat n th_0 r_1 (0 : Int32)) (fun (r_5 : Int32) =>
  bnd (f_X2_claimsThat n th_0 (-1 : Int32) (0 : Int32)) (fun (r_6 : Int32) =>
  if r_5 = r_6 then (
  some (1 : Int32)) else (
  some (0 : Int32))))) else (
  some (0 : Int32)))) else (
  some (0 : Int32))))))
def s_X2_waitingPages_4 (n : Nat) (th_0 : OS) (rc_4 : (Int32) → (Int32) → Option (Int32)) (w1_j4 : Int32) (w2_j4 : Int32) : Option (Int32) :=
  if (th_0.1 4) ≤ w2_j4 then (
  some w1_j4) else (
  bnd (f_X2_waits n th_0 w2_j4) (fun (r_1 : Int32) =>
  if r_1 = 0 then (
  Let (w2_j4 + (1 : Int32)) (fun v2_2 : Int32 =>
  rc_4 w1_j4 v2_2)) else (
  bnd (f_X6_get n (7 : Int32) 420 (th_0.2.1 13) w2_j4 (1 : Int32)) (fun (r_3 : Int32) =>
  Let (w1_j4 + r_3) (fun v1_4 : Int32 =>
  Let (w2_j4 + (1 : Int32)) (fun v2_5 : Int32 =>
  rc_4 v1_4 v2_5))))))
def l_X2_waitingPages_4 (n : Nat) (th_0 : OS) : Nat → (Int32) → (Int32) → Option (Int32)
  | 0 => fun _ _ => none
  | N + 1 => s_X2_waitingPages_4 n th_0 (l_X2_waitingPages_4 n th_0 N)
def f_X2_waitingPages (n : Nat) (th_0 : OS) : Option (Int32) :=
  l_X2_waitingPages_4 n th_0 n (0 : Int32) (0 : Int32)
def f_X2_isKnown (n : Nat) (th_0 : OS) (v1_0 : Int32) : Option (Int32) :=
  if v1_0 < 0 then (
  some (0 : Int32)) else (
  if (th_0.1 5) ≤ v1_0 then (
  some (0 : Int32)) else (
  if v1_0 < ((th_0.1 5) - (40 : Int32)) then (
  some (0 : Int32)) else (
  some (1 : Int32))))
def f_X2_ofFine (n : Nat) (th_0 : OS) (v1_0 : Int32) (v2_0 : Int32) : Option (Int32) :=
  bnd (f_X6_get n (8 : Int32) 320 (th_0.2.1 14) (rm32 v1_0 (40 : Int32)) v2_0) (fun (r_1 : Int32) =>
  some r_1)
def f_X2_isAppealable (n : Nat) (th_0 : OS) (v1_0 : Int32) (v2_0 : Int32) : Option (Int32) :=
  bnd (f_X2_ofFine n th_0 v1_0 (6 : Int32)) (fun (r_1 : Int32) =>
  if r_1 = 0 then (
  bnd (f_X2_ofFine n th_0 v1_0 (4 : Int32)) (fun (r_2 : Int32) =>
  if v2_0 < ((th_0.1 0) - r_2) then (
  some (0 : Int32)) else (
  some (1 : Int32)))) else (
  some (0 : Int32)))
def f_X2_stalledIn (n : Nat) (th_0 : OS) (v1_0 : Int32) (v2_0 : Int32) : Option (Int32) :=
  Let (v2_0 >>> ((3 : Int32) &&& 31)) (fun v3_1 : Int32 =>
  if v3_1 < 0 then (
  some (0 : Int32)) else (
  if (251 : Int32) ≤ v3_1 then (
  some (0 : Int32)) else (
  gI 251 v3_1 (Let ((th_0.2.2.1 9) v3_1.toNatClampNeg) (fun x_2 : Int64 =>
  if (lg_cmp ((x_2 >>> ((((v2_0 &&& (7 : Int32)) * (8 : Int32)) + v1_0).toInt64 &&& 63)) &&& (1 : Int64)) (1 : Int64)) = 0 then (
  some (1 : Int32)) else (
  some (0 : Int32)))))))
def s_X2_evidenceFor_27 (n : Nat) (th_0 : OS) (w2_j27 : Int32) (w3_j27 : Int32) (rc_27 : (Int32) → (Int32) → Option (Int32)) (w4_j27 : Int32) (w5_j27 : Int32) : Option (Int32) :=
  if w3_j27 < w5_j27 then (
  some w4_j27) else (
  bnd (f_X2_stalledIn n th_0 w2_j27 w5_j27) (fun (r_5 : Int32) =>
  if r_5 = 0 then (
  Let (w5_j27 + (1 : Int32)) (fun v5_6 : Int32 =>
  rc_27 w4_j27 v5_6)) else (
  Let (w4_j27 + (1 : Int32)) (fun v4_7 : Int32 =>
  Let (w5_j27 + (1 : Int32)) (fun v5_8 : Int32 =>
  rc_27 v4_7 v5_8)))))
def l_X2_evidenceFor_27 (n : Nat) (th_0 : OS) (w2_j27 : Int32) (w3_j27 : Int32) : Nat → (Int32) → (Int32) → Option (Int32)
  | 0 => fun _ _ => none
  | N + 1 => s_X2_evidenceFor_27 n th_0 w2_j27 w3_j27 (l_X2_evidenceFor_27 n th_0 w2_j27 w3_j27 N)
def f_X2_evidenceFor (n : Nat) (th_0 : OS) (v1_0 : Int32) : Option (Int32) :=
  bnd (f_X2_ofFine n th_0 v1_0 (0 : Int32)) (fun (r_1 : Int32) =>
  bnd (f_X2_ofFine n th_0 v1_0 (4 : Int32)) (fun (r_2 : Int32) =>
  bnd (f_X2_ofFine n th_0 v1_0 (3 : Int32)) (fun (r_3 : Int32) =>
  Let (r_3 + (1 : Int32)) (fun v5_4 : Int32 =>
  l_X2_evidenceFor_27 n th_0 r_1 r_2 n (0 : Int32) v5_4))))
def f_X2_lessBy (n : Nat) (th_0 : OS) (v1_0 : Int32) (v2_0 : Int32) : Option (Int32) :=
  bnd (f_X2_ofFine n th_0 v1_0 (5 : Int32)) (fun (r_1 : Int32) =>
  bnd (f_X2_ofFine n th_0 v1_0 (4 : Int32)) (fun (r_2 : Int32) =>
  bnd (f_X2_ofFine n th_0 v1_0 (3 : Int32)) (fun (r_3 : Int32) =>
  Let (r_2 - r_3) (fun v4_4 : Int32 =>
  bnd (f_X2_quotientUp n (r_1 * (v4_4 - v2_0)) v4_4) (fun (r_5 : Int32) =>
  some (r_1 - r_5))))))
def j_X2_lessen_56 (n : Nat) (th_j56 : OS) (w3_j56 : Int32) (w4_j56 : Int32) (w6_j56 : Int32) (s0_j56 : Int32) : Option (OS × Int32) :=
  bnd (f_X6_add n (8 : Int32) 320 (th_j56.2.1 14) w3_j56 (5 : Int32) (-w6_j56)) (fun (y_7 : Nat → Int32) =>
  Let (sA th_j56 14 y_7) (fun th_8 : OS =>
  bnd (f_X6_set n (8 : Int32) 320 (th_8.2.1 14) w3_j56 (6 : Int32) (1 : Int32)) (fun (y_9 : Nat → Int32) =>
  Let (sA th_8 14 y_9) (fun th_10 : OS =>
  bnd (f_X6_get n (5 : Int32) 40 (th_10.2.1 11) w4_j56 (1 : Int32)) (fun (r_11 : Int32) =>
  bnd (f_X6_set n (5 : Int32) 40 (th_10.2.1 11) w4_j56 (1 : Int32) (if (0 : Int32) < (r_11 - w6_j56) then (r_11 - w6_j56) else (0 : Int32))) (fun (y_12 : Nat → Int32) =>
  Let (sA th_10 11 y_12) (fun th_13 : OS =>
  bnd (f_X6_get n (5 : Int32) 40 (th_13.2.1 11) w4_j56 (0 : Int32)) (fun (r_14 : Int32) =>
  bnd (f_X6_set n (5 : Int32) 40 (th_13.2.1 11) w4_j56 (0 : Int32) (if (0 : Int32) < (r_14 - s0_j56) then (r_14 - s0_j56) else (0 : Int32))) (fun (y_15 : Nat → Int32) =>
  Let (sA th_13 11 y_15) (fun th_16 : OS =>
  some (th_16, w6_j56)))))))))))
def f_X2_lessen (n : Nat) (th_0 : OS) (v1_0 : Int32) (v2_0 : Int32) : Option (OS × Int32) :=
  Let (rm32 v1_0 (40 : Int32)) (fun v3_1 : Int32 =>
  bnd (f_X2_ofFine n th_0 v1_0 (0 : Int32)) (fun (r_2 : Int32) =>
  bnd (f_X2_ofFine n th_0 v1_0 (4 : Int32)) (fun (r_3 : Int32) =>
  bnd (f_X2_ofFine n th_0 v1_0 (3 : Int32)) (fun (r_4 : Int32) =>
  Let (r_3 - r_4) (fun v5_5 : Int32 =>
  bnd (f_X2_lessBy n th_0 v1_0 v2_0) (fun (r_6 : Int32) =>
  if v5_5 ≤ 0 then (
  j_X2_lessen_56 n th_0 v3_1 r_2 r_6 (0 : Int32)) else (
  bnd (f_X2_ofFine n th_0 v1_0 (2 : Int32)) (fun (r_17 : Int32) =>
  oN (v5_5 = 0) (
  j_X2_lessen_56 n th_0 v3_1 r_2 r_6 ((r_17 * v2_0) / v5_5))))))))))
def f_X9_thrown (n : Nat) (th_0 : OS) : Option (Int32) :=
  some (th_0.1 0)
def f_X9_is (n : Nat) (th_0 : OS) (v1_0 : Int32) : Option (OS × Int32) :=
  if v1_0 = 0 then (
  Let (sI th_0 0 (1 : Int32)) (fun th_1 : OS =>
  gZ v1_0 (some (th_1, v1_0)))) else (
  Let (sI th_0 0 (0 : Int32)) (fun th_2 : OS =>
  gZ v1_0 (some (th_2, v1_0))))
def f_X9_may (n : Nat) (th_0 : OS) (v1_0 : Int32) (v2_0 : Int32) : Option (OS × Int32) :=
  if v1_0 = 0 then (
  Let (sI th_0 0 v2_0) (fun th_1 : OS =>
  gZ v1_0 (some (th_1, v1_0)))) else (
  Let (sI th_0 0 (0 : Int32)) (fun th_2 : OS =>
  gZ v1_0 (some (th_2, v1_0))))
def f_X9_isIn (n : Nat) (v0_0 : Int64) (v2_0 : Int64) (v4_0 : Int64) : Option (Int32) :=
  if (lg_cmp v0_0 v2_0) < 0 then (
  some (0 : Int32)) else (
  if 0 < (lg_cmp v0_0 v4_0) then (
  some (0 : Int32)) else (
  some (1 : Int32)))
def f_X9_lesser (n : Nat) (v0_0 : Int32) (v1_0 : Int32) : Option (Int32) :=
  if v1_0 ≤ v0_0 then (
  some v1_0) else (
  some v0_0)
def f_X9_greater (n : Nat) (v0_0 : Int32) (v1_0 : Int32) : Option (Int32) :=
  if v0_0 ≤ v1_0 then (
  some v1_0) else (
  some v0_0)
def f_X9_upwards (n : Nat) (v0_0 : Int32) (v1_0 : Int32) : Option (Int32) :=
  oN (v1_0 = 0) (
  some (((v0_0 + v1_0) - (1 : Int32)) / v1_0))
def s_X9_copies_2 (n : Nat) (z_p0 : Nat) (z_p1 : Nat) (p0_0 : Nat → Int32) (rc_2 : (Nat → Int32) → (Int32) → Option ((Nat → Int32))) (p1_j2 : Nat → Int32) (w2_j2 : Int32) : Option ((Nat → Int32)) :=
  if (1846 : Int32) ≤ w2_j2 then (
  some p1_j2) else (
  gI z_p0 w2_j2 (Let (p0_0 w2_j2.toNatClampNeg) (fun x_1 : Int32 =>
  gI z_p1 w2_j2 (Let (upd p1_j2 w2_j2.toNatClampNeg x_1) (fun p1_2 : Nat → Int32 =>
  Let (w2_j2 + (1 : Int32)) (fun v2_3 : Int32 =>
  rc_2 p1_2 v2_3))))))
def l_X9_copies_2 (n : Nat) (z_p0 : Nat) (z_p1 : Nat) (p0_0 : Nat → Int32) : Nat → (Nat → Int32) → (Int32) → Option ((Nat → Int32))
  | 0 => fun _ _ => none
  | N + 1 => s_X9_copies_2 n z_p0 z_p1 p0_0 (l_X9_copies_2 n z_p0 z_p1 p0_0 N)
def f_X9_copies (n : Nat) (z_p0 : Nat) (p0_0 : Nat → Int32) (z_p1 : Nat) (p1_0 : Nat → Int32) : Option ((Nat → Int32)) :=
  l_X9_copies_2 n z_p0 z_p1 p0_0 n p1_0 (0 : Int32)
def f_X9_starts (n : Nat) (th_0 : OS) : Option (OS) :=
  bnd (f_X9_copies n 1846 (th_0.2.1 9) 1846 (th_0.2.1 11)) (fun (y_1 : Nat → Int32) =>
  Let (sA th_0 11 y_1) (fun th_2 : OS =>
  some th_2))
def s_X9_done_52 (n : Nat) (w1_j52 : Int32) (rc_52 : (OS) → (Int32) → Option (OS × Int32)) (th_j52 : OS) (w2_j52 : Int32) : Option (OS × Int32) :=
  if (1846 : Int32) ≤ w2_j52 then (
  Let (sI th_j52 15 ((th_j52.1 15) + (1 : Int32))) (fun th_1 : OS =>
  some (th_1, w1_j52))) else (
  gI 1846 w2_j52 (Let ((th_j52.2.1 11) w2_j52.toNatClampNeg) (fun x_2 : Int32 =>
  gI 14768 (((1846 : Int32) * (th_j52.1 15)) + w2_j52) (Let (sA th_j52 14 (upd (th_j52.2.1 14) (((1846 : Int32) * (th_j52.1 15)) + w2_j52).toNatClampNeg x_2)) (fun th_3 : OS =>
  Let (w2_j52 + (1 : Int32)) (fun v2_4 : Int32 =>
  rc_52 th_3 v2_4))))))
def l_X9_done_52 (n : Nat) (w1_j52 : Int32) : Nat → (OS) → (Int32) → Option (OS × Int32)
  | 0 => fun _ _ => none
  | N + 1 => s_X9_done_52 n w1_j52 (l_X9_done_52 n w1_j52 N)
def j_X9_done_50 (n : Nat) (v1_0 : Int32) (th_j50 : OS) : Option (OS × Int32) :=
  l_X9_done_52 n v1_0 n th_j50 (0 : Int32)
def s_X9_done_11 (n : Nat) (w1_j11 : Int32) (rc_11 : (OS) → (Int32) → Option (OS × Int32)) (th_j11 : OS) (w2_j11 : Int32) : Option (OS × Int32) :=
  if (12922 : Int32) ≤ w2_j11 then (
  Let (sI th_j11 15 ((th_j11.1 15) - (1 : Int32))) (fun th_5 : OS =>
  j_X9_done_50 n w1_j11 th_5)) else (
  gI 14768 (w2_j11 + (1846 : Int32)) (Let ((th_j11.2.1 14) (w2_j11 + (1846 : Int32)).toNatClampNeg) (fun x_6 : Int32 =>
  gI 14768 w2_j11 (Let (sA th_j11 14 (upd (th_j11.2.1 14) w2_j11.toNatClampNeg x_6)) (fun th_7 : OS =>
  Let (w2_j11 + (1 : Int32)) (fun v2_8 : Int32 =>
  rc_11 th_7 v2_8))))))
def l_X9_done_11 (n : Nat) (w1_j11 : Int32) : Nat → (OS) → (Int32) → Option (OS × Int32)
  | 0 => fun _ _ => none
  | N + 1 => s_X9_done_11 n w1_j11 (l_X9_done_11 n w1_j11 N)
def f_X9_done (n : Nat) (th_0 : OS) (v1_0 : Int32) : Option (OS × Int32) :=
  if (th_0.1 15) = (8 : Int32) then (
  l_X9_done_11 n v1_0 n th_0 (0 : Int32)) else (
  j_X9_done_50 n v1_0 th_0)
def s_X9_undo_33 (n : Nat) (rc_33 : (OS) → (Int32) → Option (OS × Int32)) (th_j33 : OS) (w1_j33 : Int32) : Option (OS × Int32) :=
  if (1846 : Int32) ≤ w1_j33 then (
  some (th_j33, (th_j33.1 15))) else (
  gI 14768 (((1846 : Int32) * (th_j33.1 15)) + w1_j33) (Let ((th_j33.2.1 14) (((1846 : Int32) * (th_j33.1 15)) + w1_j33).toNatClampNeg) (fun x_4 : Int32 =>
  gI 1846 w1_j33 (Let (sA th_j33 9 (upd (th_j33.2.1 9) w1_j33.toNatClampNeg x_4)) (fun th_5 : OS =>
  Let (w1_j33 + (1 : Int32)) (fun v1_6 : Int32 =>
  rc_33 th_5 v1_6))))))
def l_X9_undo_33 (n : Nat) : Nat → (OS) → (Int32) → Option (OS × Int32)
  | 0 => fun _ _ => none
  | N + 1 => s_X9_undo_33 n (l_X9_undo_33 n N)
def j_X9_undo_13 (n : Nat) (th_j13 : OS) (s1_j13 : Int32) : Option (OS × Int32) :=
  bnd2 (f_X9_is n th_j13 s1_j13) (fun (th_1 : OS) (r_2 : Int32) =>
  if r_2 = 0 then (
  some (th_1, (0 : Int32))) else (
  Let (sI th_1 15 ((th_1.1 15) - (1 : Int32))) (fun th_3 : OS =>
  l_X9_undo_33 n n th_3 (0 : Int32))))
def f_X9_undo (n : Nat) (th_0 : OS) : Option (OS × Int32) :=
  if (th_0.1 15) ≤ 0 then (
  j_X9_undo_13 n th_0 (0 : Int32)) else (
  j_X9_undo_13 n th_0 (1 : Int32))
def f_X9_saveState (n : Nat) (th_0 : OS) : Option (OS × Int32) :=
  Let (sI th_0 0 (0 : Int32)) (fun th_1 : OS =>
  bnd (f_X9_copies n 1846 (th_1.2.1 9) 1846 (th_1.2.1 13)) (fun (y_2 : Nat → Int32) =>
  Let (sA th_1 13 y_2) (fun th_3 : OS =>
  Let (sI th_3 16 (1 : Int32)) (fun th_4 : OS =>
  gI 1846 (0 : Int32) (Let ((th_4.2.1 9) (0 : Int32).toNatClampNeg) (fun x_5 : Int32 =>
  some (th_4, x_5)))))))
def f_X9_restoreState (n : Nat) (th_0 : OS) : Option (OS × Int32) :=
  bnd2 (f_X9_is n th_0 (th_0.1 16)) (fun (th_1 : OS) (r_2 : Int32) =>
  if r_2 = 0 then (
  some (th_1, (0 : Int32))) else (
  bnd (f_X9_copies n 1846 (th_1.2.1 13) 1846 (th_1.2.1 9)) (fun (y_3 : Nat → Int32) =>
  Let (sA th_1 9 y_3) (fun th_4 : OS =>
  Let (sI th_4 15 (0 : Int32)) (fun th_5 : OS =>
  gI 1846 (0 : Int32) (Let ((th_5.2.1 9) (0 : Int32).toNatClampNeg) (fun x_6 : Int32 =>
  some (th_5, x_6))))))))
def f_X9_tries (n : Nat) (th_0 : OS) : Option (OS) :=
  bnd (f_X9_copies n 1846 (th_0.2.1 9) 1846 (th_0.2.1 12)) (fun (y_1 : Nat → Int32) =>
  Let (sA th_0 12 y_1) (fun th_2 : OS =>
  some th_2))
def f_X9_laysBack (n : Nat) (th_0 : OS) (v1_0 : Int32) : Option (OS × Int32) :=
  bnd (f_X9_copies n 1846 (th_0.2.1 12) 1846 (th_0.2.1 9)) (fun (y_1 : Nat → Int32) =>
  Let (sA th_0 9 y_1) (fun th_2 : OS =>
  some (th_2, v1_0)))
def f_X9_process0 (n : Nat) (th_0 : OS) (v1_0 : Int32) (v2_0 : Int32) : Option (Int32) :=
  gI 1846 (((10 : Int32) + ((6 : Int32) * v1_0)) + v2_0) (Let ((th_0.2.1 9) (((10 : Int32) + ((6 : Int32) * v1_0)) + v2_0).toNatClampNeg) (fun x_1 : Int32 =>
  some x_1))
def f_X9_sets (n : Nat) (th_0 : OS) (v1_0 : Int32) (v2_0 : Int32) (v3_0 : Int32) : Option (OS) :=
  gI 1846 (((10 : Int32) + ((6 : Int32) * v1_0)) + v2_0) (Let (sA th_0 9 (upd (th_0.2.1 9) (((10 : Int32) + ((6 : Int32) * v1_0)) + v2_0).toNatClampNeg v3_0)) (fun th_1 : OS =>
  some th_1))
def f_X9_loan0 (n : Nat) (th_0 : OS) (v1_0 : Int32) (v2_0 : Int32) : Option (Int32) :=
  gI 1846 (((58 : Int32) + ((6 : Int32) * v1_0)) + v2_0) (Let ((th_0.2.1 9) (((58 : Int32) + ((6 : Int32) * v1_0)) + v2_0).toNatClampNeg) (fun x_1 : Int32 =>
  some x_1))
def f_X9_claim0 (n : Nat) (th_0 : OS) (v1_0 : Int32) (v2_0 : Int32) : Option (Int32) :=
  gI 1846 (((602 : Int32) + ((7 : Int32) * v1_0)) + v2_0) (Let ((th_0.2.1 9) (((602 : Int32) + ((7 : Int32) * v1_0)) + v2_0).toNatClampNeg) (fun x_1 : Int32 =>
  some x_1))
def f_X9_fineAt (n : Nat) (v0_0 : Int32) : Option (Int32) :=
  some ((1022 : Int32) + ((8 : Int32) * (rm32 v0_0 (40 : Int32))))
def f_X9_fine0 (n : Nat) (th_0 : OS) (v1_0 : Int32) (v2_0 : Int32) : Option (Int32) :=
  bnd (f_X9_fineAt n v1_0) (fun (r_1 : Int32) =>
  gI 1846 (r_1 + v2_0) (Let ((th_0.2.1 9) (r_1 + v2_0).toNatClampNeg) (fun x_2 : Int32 =>
  some x_2)))
def f_X9_isProcess (n : Nat) (th_0 : OS) (v1_0 : Int32) : Option (Int32) :=
  bnd (f_X9_isIn n ((v1_0).toInt64) (0 : Int64) ((((th_0.1 2) - (1 : Int32))).toInt64)) (fun (r_1 : Int32) =>
  gZ r_1 (some r_1))
def f_X9_isLoan (n : Nat) (th_0 : OS) (v1_0 : Int32) : Option (Int32) :=
  gI 1846 (6 : Int32) (Let ((th_0.2.1 9) (6 : Int32).toNatClampNeg) (fun x_1 : Int32 =>
  bnd (f_X9_isIn n ((v1_0).toInt64) (0 : Int64) (((x_1 - (1 : Int32))).toInt64)) (fun (r_2 : Int32) =>
  gZ r_2 (some r_2))))
def f_X9_isClaim (n : Nat) (th_0 : OS) (v1_0 : Int32) : Option (Int32) :=
  gI 1846 (7 : Int32) (Let ((th_0.2.1 9) (7 : Int32).toNatClampNeg) (fun x_1 : Int32 =>
  bnd (f_X9_isIn n ((v1_0).toInt64) (0 : Int64) (((x_1 - (1 : Int32))).toInt64)) (fun (r_2 : Int32) =>
  gZ r_2 (some r_2))))
def f_X9_isKnown (n : Nat) (th_0 : OS) (v1_0 : Int32) : Option (Int32) :=
  gI 1846 (4 : Int32) (Let ((th_0.2.1 9) (4 : Int32).toNatClampNeg) (fun x_1 : Int32 =>
  bnd (f_X9_greater n (0 : Int32) (x_1 - (40 : Int32))) (fun (r_2 : Int32) =>
  gI 1846 (4 : Int32) (Let ((th_0.2.1 9) (4 : Int32).toNatClampNeg) (fun x_3 : Int32 =>
  bnd (f_X9_isIn n ((v1_0).toInt64) ((r_2).toInt64) (((x_3 - (1 : Int32))).toInt64)) (fun (r_4 : Int32) =>
  gZ r_4 (some r_4)))))))
def s_X9_pagesOf_4 (n : Nat) (th_0 : OS) (w1_j4 : Int32) (rc_4 : (Int32) → (Int32) → Option (Int32)) (w2_j4 : Int32) (w3_j4 : Int32) : Option (Int32) :=
  if (th_0.1 1) ≤ w3_j4 then (
  some w2_j4) else (
  gI 1846 ((538 : Int32) + w3_j4) (Let ((th_0.2.1 9) ((538 : Int32) + w3_j4).toNatClampNeg) (fun x_1 : Int32 =>
  if x_1 = w1_j4 then (
  Let (w2_j4 + (1 : Int32)) (fun v2_3 : Int32 =>
  Let (w3_j4 + (1 : Int32)) (fun v3_4 : Int32 =>
  rc_4 v2_3 v3_4))) else (
  Let (w3_j4 + (1 : Int32)) (fun v3_2 : Int32 =>
  rc_4 w2_j4 v3_2)))))
def l_X9_pagesOf_4 (n : Nat) (th_0 : OS) (w1_j4 : Int32) : Nat → (Int32) → (Int32) → Option (Int32)
  | 0 => fun _ _ => none
  | N + 1 => s_X9_pagesOf_4 n th_0 w1_j4 (l_X9_pagesOf_4 n th_0 w1_j4 N)
def f_X9_pagesOf (n : Nat) (th_0 : OS) (v1_0 : Int32) : Option (Int32) :=
  l_X9_pagesOf_4 n th_0 v1_0 n (0 : Int32) (0 : Int32)
def f_X9_free (n : Nat) (th_0 : OS) : Option (Int32) :=
  bnd (f_X9_pagesOf n th_0 (-1 : Int32)) (fun (r_1 : Int32) =>
  some r_1)
def f_X9_isBrokenLoan (n : Nat) (th_0 : OS) (v1_0 : Int32) : Option (Int32) :=
  gI 1846 (0 : Int32) (Let ((th_0.2.1 9) (0 : Int32).toNatClampNeg) (fun x_1 : Int32 =>
  bnd (f_X9_loan0 n th_0 v1_0 (1 : Int32)) (fun (r_2 : Int32) =>
  if x_1 ≤ r_2 then (
  some (0 : Int32)) else (
  bnd (f_X9_pagesOf n th_0 v1_0) (fun (r_3 : Int32) =>
  if r_3 ≤ 0 then (
  some (0 : Int32)) else (
  some (1 : Int32)))))))
def s_X9_brokenPages_4 (n : Nat) (th_0 : OS) (rc_4 : (Int32) → (Int32) → Option (Int32)) (w1_j4 : Int32) (w2_j4 : Int32) : Option (Int32) :=
  gI 1846 (6 : Int32) (Let ((th_0.2.1 9) (6 : Int32).toNatClampNeg) (fun x_1 : Int32 =>
  if x_1 ≤ w2_j4 then (
  some w1_j4) else (
  bnd (f_X9_isBrokenLoan n th_0 w2_j4) (fun (r_2 : Int32) =>
  if r_2 = 0 then (
  Let (w2_j4 + (1 : Int32)) (fun v2_3 : Int32 =>
  rc_4 w1_j4 v2_3)) else (
  bnd (f_X9_pagesOf n th_0 w2_j4) (fun (r_4 : Int32) =>
  Let (w1_j4 + r_4) (fun v1_5 : Int32 =>
  Let (w2_j4 + (1 : Int32)) (fun v2_6 : Int32 =>
  rc_4 v1_5 v2_6))))))))
def l_X9_brokenPages_4 (n : Nat) (th_0 : OS) : Nat → (Int32) → (Int32) → Option (Int32)
  | 0 => fun _ _ => none
  | N + 1 => s_X9_brokenPages_4 n th_0 (l_X9_brokenPages_4 n th_0 N)
def f_X9_brokenPages (n : Nat) (th_0 : OS) : Option (Int32) :=
  l_X9_brokenPages_4 n th_0 n (0 : Int32) (0 : Int32)
def s_X9_earliestBroken_4 (n : Nat) (th_0 : OS) (rc_4 : (Int32) → (Int32) → Option (Int32)) (w1_j4 : Int32) (w2_j4 : Int32) : Option (Int32) :=
  gI 1846 (6 : Int32) (Let ((th_0.2.1 9) (6 : Int32).toNatClampNeg) (fun x_1 : Int32 =>
  if x_1 ≤ w2_j4 then (
  some w1_j4) else (
  bnd (f_X9_isBrokenLoan n th_0 w2_j4) (fun (r_2 : Int32) =>
  if r_2 = 0 then (
  Let (w2_j4 + (1 : Int32)) (fun v2_3 : Int32 =>
  rc_4 w1_j4 v2_3)) else (
  if w1_j4 = (-1 : Int32) then (
  Let (w2_j4 + (1 : Int32)) (fun v2_4 : Int32 =>
  rc_4 w2_j4 v2_4)) else (
  bnd (f_X9_loan0 n th_0 w2_j4 (1 : Int32)) (fun (r_5 : Int32) =>
  bnd (f_X9_loan0 n th_0 w1_j4 (1 : Int32)) (fun (r_6 : Int32) =>
  if r_6 ≤ r_5 then (
  Let (w2_j4 + (1 : Int32)) (fun v2_7 : Int32 =>
  rc_4 w1_j4 v2_7)) else (
  Let (w2_j4 + (1 : Int32)) (fun v2_8 : Int32 =>
  rc_4 w2_j4 v2_8))))))))))
def l_X9_earliestBroken_4 (n : Nat) (th_0 : OS) : Nat → (Int32) → (Int32) → Option (Int32)
  | 0 => fun _ _ => none
  | N + 1 => s_X9_earliestBroken_4 n th_0 (l_X9_earliestBroken_4 n th_0 N)
def f_X9_earliestBroken (n : Nat) (th_0 : OS) : Option (Int32) :=
  l_X9_earliestBroken_4 n th_0 n (-1 : Int32) (0 : Int32)
def s_X9_frees_10 (n : Nat) (w1_j10 : Int32) (rc_10 : (OS) → (Int32) → (Int32) → Option (OS)) (th_j10 : OS) (w3_j10 : Int32) (w4_j10 : Int32) : Option (OS) :=
  if w4_j10 < 0 then (
  some th_j10) else (
  if w3_j10 ≤ 0 then (
  some th_j10) else (
  gI 1846 ((538 : Int32) + w4_j10) (Let ((th_j10.2.1 9) ((538 : Int32) + w4_j10).toNatClampNeg) (fun x_2 : Int32 =>
  if x_2 = w1_j10 then (
  gI 1846 ((538 : Int32) + w4_j10) (Let (sA th_j10 9 (upd (th_j10.2.1 9) ((538 : Int32) + w4_j10).toNatClampNeg (-1 : Int32))) (fun th_3 : OS =>
  Let (w3_j10 - (1 : Int32)) (fun v3_4 : Int32 =>
  Let (w4_j10 + (-1 : Int32)) (fun v4_5 : Int32 =>
  rc_10 th_3 v3_4 v4_5))))) else (
  Let (w4_j10 + (-1 : Int32)) (fun v4_6 : Int32 =>
  rc_10 th_j10 w3_j10 v4_6))))))
def l_X9_frees_10 (n : Nat) (w1_j10 : Int32) : Nat → (OS) → (Int32) → (Int32) → Option (OS)
  | 0 => fun _ _ _ => none
  | N + 1 => s_X9_frees_10 n w1_j10 (l_X9_frees_10 n w1_j10 N)
def f_X9_frees (n : Nat) (th_0 : OS) (v1_0 : Int32) (v2_0 : Int32) : Option (OS) :=
  Let ((th_0.1 1) - (1 : Int32)) (fun v4_1 : Int32 =>
  l_X9_frees_10 n v1_0 n th_0 v2_0 v4_1)
def s_X9_lends_75 (n : Nat) (z_p0 : Nat) (w5_j75 : Int32) (rc_75 : (Nat → Int32) → (Int32) → (Int32) → Option ((Nat → Int32))) (p0_j75 : Nat → Int32) (w7_j75 : Int32) (w8_j75 : Int32) : Option ((Nat → Int32)) :=
  if w7_j75 ≤ 0 then (
  some p0_j75) else (
  gI z_p0 ((538 : Int32) + w8_j75) (Let (p0_j75 ((538 : Int32) + w8_j75).toNatClampNeg) (fun x_11 : Int32 =>
  if x_11 = (-1 : Int32) then (
  gI z_p0 ((538 : Int32) + w8_j75) (Let (upd p0_j75 ((538 : Int32) + w8_j75).toNatClampNeg w5_j75) (fun p0_12 : Nat → Int32 =>
  Let (w7_j75 - (1 : Int32)) (fun v7_13 : Int32 =>
  Let (w8_j75 + (1 : Int32)) (fun v8_14 : Int32 =>
  rc_75 p0_12 v7_13 v8_14))))) else (
  Let (w8_j75 + (1 : Int32)) (fun v8_15 : Int32 =>
  rc_75 p0_j75 w7_j75 v8_15)))))
def l_X9_lends_75 (n : Nat) (z_p0 : Nat) (w5_j75 : Int32) : Nat → (Nat → Int32) → (Int32) → (Int32) → Option ((Nat → Int32))
  | 0 => fun _ _ _ => none
  | N + 1 => s_X9_lends_75 n z_p0 w5_j75 (l_X9_lends_75 n z_p0 w5_j75 N)
def f_X9_lends (n : Nat) (z_p0 : Nat) (p0_0 : Nat → Int32) (v1_0 : Int32) (v2_0 : Int32) (v3_0 : Int32) (v4_0 : Int32) : Option ((Nat → Int32)) :=
  gI z_p0 (6 : Int32) (Let (p0_0 (6 : Int32).toNatClampNeg) (fun x_1 : Int32 =>
  Let ((58 : Int32) + ((6 : Int32) * x_1)) (fun v6_2 : Int32 =>
  gI z_p0 (v6_2 + (0 : Int32)) (Let (upd p0_0 (v6_2 + (0 : Int32)).toNatClampNeg v1_0) (fun p0_3 : Nat → Int32 =>
  gI z_p0 (v6_2 + (1 : Int32)) (Let (upd p0_3 (v6_2 + (1 : Int32)).toNatClampNeg v3_0) (fun p0_4 : Nat → Int32 =>
  gI z_p0 (0 : Int32) (Let (p0_4 (0 : Int32).toNatClampNeg) (fun x_5 : Int32 =>
  gI z_p0 (v6_2 + (2 : Int32)) (Let (upd p0_4 (v6_2 + (2 : Int32)).toNatClampNeg x_5) (fun p0_6 : Nat → Int32 =>
  gI z_p0 (v6_2 + (3 : Int32)) (Let (upd p0_6 (v6_2 + (3 : Int32)).toNatClampNeg v4_0) (fun p0_7 : Nat → Int32 =>
  gI z_p0 (v6_2 + (4 : Int32)) (Let (upd p0_7 (v6_2 + (4 : Int32)).toNatClampNeg (0 : Int32)) (fun p0_8 : Nat → Int32 =>
  gI z_p0 (v6_2 + (5 : Int32)) (Let (upd p0_8 (v6_2 + (5 : Int32)).toNatClampNeg v2_0) (fun p0_9 : Nat → Int32 =>
  gI z_p0 (6 : Int32) (Let (upd p0_9 (6 : Int32).toNatClampNeg (x_1 + (1 : Int32))) (fun p0_10 : Nat → Int32 =>
  l_X9_lends_75 n z_p0 x_1 n p0_10 v2_0 (0 : Int32))))))))))))))))))))
def f_X9_asks (n : Nat) (z_p0 : Nat) (p0_0 : Nat → Int32) (v1_0 : Int32) (v2_0 : Int32) (v3_0 : Int32) : Option ((Nat → Int32) × Int32) :=
  gI z_p0 (7 : Int32) (Let (p0_0 (7 : Int32).toNatClampNeg) (fun x_1 : Int32 =>
  Let ((602 : Int32) + ((7 : Int32) * x_1)) (fun v5_2 : Int32 =>
  gI z_p0 (v5_2 + (0 : Int32)) (Let (upd p0_0 (v5_2 + (0 : Int32)).toNatClampNeg v1_0) (fun p0_3 : Nat → Int32 =>
  gI z_p0 (v5_2 + (1 : Int32)) (Let (upd p0_3 (v5_2 + (1 : Int32)).toNatClampNeg v2_0) (fun p0_4 : Nat → Int32 =>
  gI z_p0 (v5_2 + (2 : Int32)) (Let (upd p0_4 (v5_2 + (2 : Int32)).toNatClampNeg v3_0) (fun p0_5 : Nat → Int32 =>
  gI z_p0 (v5_2 + (3 : Int32)) (Let (upd p0_5 (v5_2 + (3 : Int32)).toNatClampNeg (0 : Int32)) (fun p0_6 : Nat → Int32 =>
  gI z_p0 (v5_2 + (4 : Int32)) (Let (upd p0_6 (v5_2 + (4 : Int32)).toNatClampNeg (0 : Int32)) (fun p0_7 : Nat → Int32 =>
  gI z_p0 (v5_2 + (5 : Int32)) (Let (upd p0_7 (v5_2 + (5 : Int32)).toNatClampNeg (-1 : Int32)) (fun p0_8 : Nat → Int32 =>
  gI z_p0 (0 : Int32) (Let (p0_8 (0 : Int32).toNatClampNeg) (fun x_9 : Int32 =>
  gI z_p0 (v5_2 + (6 : Int32)) (Let (upd p0_8 (v5_2 + (6 : Int32)).toNatClampNeg x_9) (fun p0_10 : Nat → Int32 =>
  gI z_p0 (7 : Int32) (Let (upd p0_10 (7 : Int32).toNatClampNeg (x_1 + (1 : Int32))) (fun p0_11 : Nat → Int32 =>
  some (p0_11, x_1))))))))))))))))))))))
def j_X9_finesFor_251 (n : Nat) (th_j251 : OS) (w2_j251 : Int32) (w5_j251 : Int32) : Option (OS) :=
  if w2_j251 = (th_j251.1 19) then (
  Let (sI th_j251 20 ((th_j251.1 20) + w5_j251)) (fun th_32 : OS =>
  some th_32)) else (
  some th_j251)
def f_X9_finesFor (n : Nat) (th_0 : OS) (v1_0 : Int32) : Option (OS) :=
  bnd (f_X9_loan0 n th_0 v1_0 (0 : Int32)) (fun (r_1 : Int32) =>
  bnd (f_X9_loan0 n th_0 v1_0 (1 : Int32)) (fun (r_2 : Int32) =>
  gI 1846 (3 : Int32) (Let ((th_0.2.1 9) (3 : Int32).toNatClampNeg) (fun x_3 : Int32 =>
  bnd (f_X9_greater n r_2 x_3) (fun (r_4 : Int32) =>
  gI 1846 (0 : Int32) (Let ((th_0.2.1 9) (0 : Int32).toNatClampNeg) (fun x_5 : Int32 =>
  bnd (f_X9_pagesOf n th_0 v1_0) (fun (r_6 : Int32) =>
  Let ((x_5 - r_4) * r_6) (fun v4_7 : Int32 =>
  bnd (f_X9_process0 n th_0 r_1 (0 : Int32)) (fun (r_8 : Int32) =>
  bnd (f_X9_upwards n (v4_7 * ((th_0.1 4) + r_8)) (100 : Int32)) (fun (r_9 : Int32) =>
  bnd (f_X9_lesser n (200 : Int32) r_9) (fun (r_10 : Int32) =>
  bnd (f_X9_process0 n th_0 r_1 (1 : Int32)) (fun (r_11 : Int32) =>
  bnd (f_X9_lesser n (999 : Int32) (r_11 + r_10)) (fun (r_12 : Int32) =>
  bnd (f_X9_sets n th_0 r_1 (1 : Int32) r_12) (fun (th_13 : OS) =>
  bnd (f_X9_process0 n th_13 r_1 (0 : Int32)) (fun (r_14 : Int32) =>
  bnd (f_X9_lesser n (999 : Int32) (r_14 + v4_7)) (fun (r_15 : Int32) =>
  bnd (f_X9_sets n th_13 r_1 (0 : Int32) r_15) (fun (th_16 : OS) =>
  bnd (f_X9_process0 n th_16 r_1 (4 : Int32)) (fun (r_17 : Int32) =>
  bnd (f_X9_sets n th_16 r_1 (4 : Int32) (r_17 + (1 : Int32))) (fun (th_18 : OS) =>
  gI 1846 (4 : Int32) (Let ((th_18.2.1 9) (4 : Int32).toNatClampNeg) (fun x_19 : Int32 =>
  bnd (f_X9_fineAt n x_19) (fun (r_20 : Int32) =>
  gI 1846 (r_20 + (0 : Int32)) (Let (sA th_18 9 (upd (th_18.2.1 9) (r_20 + (0 : Int32)).toNatClampNeg r_1)) (fun th_21 : OS =>
  gI 1846 (r_20 + (1 : Int32)) (Let (sA th_21 9 (upd (th_21.2.1 9) (r_20 + (1 : Int32)).toNatClampNeg v1_0)) (fun th_22 : OS =>
  gI 1846 (r_20 + (2 : Int32)) (Let (sA th_22 9 (upd (th_22.2.1 9) (r_20 + (2 : Int32)).toNatClampNeg v4_7)) (fun th_23 : OS =>
  gI 1846 (r_20 + (3 : Int32)) (Let (sA th_23 9 (upd (th_23.2.1 9) (r_20 + (3 : Int32)).toNatClampNeg r_4)) (fun th_24 : OS =>
  gI 1846 (0 : Int32) (Let ((th_24.2.1 9) (0 : Int32).toNatClampNeg) (fun x_25 : Int32 =>
  gI 1846 (r_20 + (4 : Int32)) (Let (sA th_24 9 (upd (th_24.2.1 9) (r_20 + (4 : Int32)).toNatClampNeg x_25)) (fun th_26 : OS =>
  gI 1846 (r_20 + (5 : Int32)) (Let (sA th_26 9 (upd (th_26.2.1 9) (r_20 + (5 : Int32)).toNatClampNeg r_10)) (fun th_27 : OS =>
  gI 1846 (r_20 + (6 : Int32)) (Let (sA th_27 9 (upd (th_27.2.1 9) (r_20 + (6 : Int32)).toNatClampNeg (0 : Int32))) (fun th_28 : OS =>
  gI 1846 (r_20 + (7 : Int32)) (Let (sA th_28 9 (upd (th_28.2.1 9) (r_20 + (7 : Int32)).toNatClampNeg r_10)) (fun th_29 : OS =>
  gI 1846 (4 : Int32) (Let ((th_29.2.1 9) (4 : Int32).toNatClampNeg) (fun x_30 : Int32 =>
  gI 1846 (4 : Int32) (Let (sA th_29 9 (upd (th_29.2.1 9) (4 : Int32).toNatClampNeg (x_30 + (1 : Int32)))) (fun th_31 : OS =>
  if v1_0 = (th_31.1 17) then (
  Let (sI th_31 18 r_10) (fun th_33 : OS =>
  j_X9_finesFor_251 n th_33 r_1 r_10)) else (
  j_X9_finesFor_251 n th_31 r_1 r_10))))))))))))))))))))))))))))))))))))))))))))))
def s_X9_finesAll_2 (n : Nat) (rc_2 : (OS) → (Int32) → Option (OS)) (th_j2 : OS) (w1_j2 : Int32) : Option (OS) :=
  gI 1846 (6 : Int32) (Let ((th_j2.2.1 9) (6 : Int32).toNatClampNeg) (fun x_1 : Int32 =>
  if x_1 ≤ w1_j2 then (
  some th_j2) else (
  bnd (f_X9_isBrokenLoan n th_j2 w1_j2) (fun (r_2 : Int32) =>
  if r_2 = 0 then (
  Let (w1_j2 + (1 : Int32)) (fun v1_3 : Int32 =>
  rc_2 th_j2 v1_3)) else (
  bnd (f_X9_finesFor n th_j2 w1_j2) (fun (th_4 : OS) =>
  Let (w1_j2 + (1 : Int32)) (fun v1_5 : Int32 =>
  rc_2 th_4 v1_5)))))))
def l_X9_finesAll_2 (n : Nat) : Nat → (OS) → (Int32) → Option (OS)
  | 0 => fun _ _ => none
  | N + 1 => s_X9_finesAll_2 n (l_X9_finesAll_2 n N)
def f_X9_finesAll (n : Nat) (th_0 : OS) : Option (OS) :=
  l_X9_finesAll_2 n n th_0 (0 : Int32)
def f_X9_rankOf (n : Nat) (th_0 : OS) (v1_0 : Int32) : Option (Int32) :=
  gI 1846 (1 : Int32) (Let ((th_0.2.1 9) (1 : Int32).toNatClampNeg) (fun x_1 : Int32 =>
  if x_1 = (1 : Int32) then (
  bnd (f_X9_claim0 n th_0 v1_0 (1 : Int32)) (fun (r_4 : Int32) =>
  some r_4)) else (
  if x_1 = (2 : Int32) then (
  bnd (f_X9_claim0 n th_0 v1_0 (0 : Int32)) (fun (r_2 : Int32) =>
  bnd (f_X9_process0 n th_0 r_2 (0 : Int32)) (fun (r_3 : Int32) =>
  some r_3))) else (
  some (0 : Int32)))))
def f_X9_doesWait (n : Nat) (th_0 : OS) (v1_0 : Int32) : Option (Int32) :=
  bnd (f_X9_claim0 n th_0 v1_0 (3 : Int32)) (fun (r_1 : Int32) =>
  if r_1 = 0 then (
  some (1 : Int32)) else (
  some (0 : Int32)))
def j_X9_lines_73 (n : Nat) (rc_4 : (OS) → (Int32) → (Int32) → Option (OS × Int32)) (th_j73 : OS) (w1_j73 : Int32) (w2_j73 : Int32) (w3_j73 : Int32) : Option (OS × Int32) :=
  gI 60 w3_j73 (Let (sA th_j73 21 (upd (th_j73.2.1 21) w3_j73.toNatClampNeg w2_j73)) (fun th_3 : OS =>
  Let (w1_j73 + (1 : Int32)) (fun v1_4 : Int32 =>
  Let (w2_j73 + (1 : Int32)) (fun v2_5 : Int32 =>
  rc_4 th_3 v1_4 v2_5))))
def s_X9_lines_28 (n : Nat) (w1_j28 : Int32) (w2_j28 : Int32) (rc_4 : (OS) → (Int32) → (Int32) → Option (OS × Int32)) (rc_28 : (OS) → (Int32) → Option (OS × Int32)) (th_j28 : OS) (w3_j28 : Int32) : Option (OS × Int32) :=
  if w3_j28 ≤ 0 then (
  j_X9_lines_73 n rc_4 th_j28 w1_j28 w2_j28 w3_j28) else (
  gI 60 (w3_j28 - (1 : Int32)) (Let ((th_j28.2.1 21) (w3_j28 - (1 : Int32)).toNatClampNeg) (fun x_6 : Int32 =>
  bnd (f_X9_rankOf n th_j28 x_6) (fun (r_7 : Int32) =>
  bnd (f_X9_rankOf n th_j28 w2_j28) (fun (r_8 : Int32) =>
  if r_7 ≤ r_8 then (
  j_X9_lines_73 n rc_4 th_j28 w1_j28 w2_j28 w3_j28) else (
  gI 60 (w3_j28 - (1 : Int32)) (Let ((th_j28.2.1 21) (w3_j28 - (1 : Int32)).toNatClampNeg) (fun x_9 : Int32 =>
  gI 60 w3_j28 (Let (sA th_j28 21 (upd (th_j28.2.1 21) w3_j28.toNatClampNeg x_9)) (fun th_10 : OS =>
  Let (w3_j28 - (1 : Int32)) (fun v3_11 : Int32 =>
  rc_28 th_10 v3_11)))))))))))
def l_X9_lines_28 (n : Nat) (w1_j28 : Int32) (w2_j28 : Int32) (rc_4 : (OS) → (Int32) → (Int32) → Option (OS × Int32)) : Nat → (OS) → (Int32) → Option (OS × Int32)
  | 0 => fun _ _ => none
  | N + 1 => s_X9_lines_28 n w1_j28 w2_j28 rc_4 (l_X9_lines_28 n w1_j28 w2_j28 rc_4 N)
def s_X9_lines_4 (n : Nat) (rc_4 : (OS) → (Int32) → (Int32) → Option (OS × Int32)) (th_j4 : OS) (w1_j4 : Int32) (w2_j4 : Int32) : Option (OS × Int32) :=
  gI 1846 (7 : Int32) (Let ((th_j4.2.1 9) (7 : Int32).toNatClampNeg) (fun x_1 : Int32 =>
  if x_1 ≤ w2_j4 then (
  some (th_j4, w1_j4)) else (
  bnd (f_X9_doesWait n th_j4 w2_j4) (fun (r_2 : Int32) =>
  if r_2 = 0 then (
  Let (w2_j4 + (1 : Int32)) (fun v2_12 : Int32 =>
  rc_4 th_j4 w1_j4 v2_12)) else (
  l_X9_lines_28 n w1_j4 w2_j4 rc_4 n th_j4 w1_j4)))))
def l_X9_lines_4 (n : Nat) : Nat → (OS) → (Int32) → (Int32) → Option (OS × Int32)
  | 0 => fun _ _ _ => none
  | N + 1 => s_X9_lines_4 n (l_X9_lines_4 n N)
def f_X9_lines (n : Nat) (th_0 : OS) : Option (OS × Int32) :=
  l_X9_lines_4 n n th_0 (0 : Int32) (0 : Int32)
def f_X9_putsOff (n : Nat) (th_0 : OS) (v1_0 : Int32) : Option (OS) :=
  Let ((602 : Int32) + ((7 : Int32) * v1_0)) (fun v2_1 : Int32 =>
  gI 1846 (v2_1 + (4 : Int32)) (Let ((th_0.2.1 9) (v2_1 + (4 : Int32)).toNatClampNeg) (fun x_2 : Int32 =>
  gI 1846 (v2_1 + (4 : Int32)) (Let (sA th_0 9 (upd (th_0.2.1 9) (v2_1 + (4 : Int32)).toNatClampNeg (x_2 + (1 : Int32)))) (fun th_3 : OS =>
  gI 1846 (v2_1 + (4 : Int32)) (Let ((th_3.2.1 9) (v2_1 + (4 : Int32)).toNatClampNeg) (fun x_4 : Int32 =>
  if (th_3.1 6) ≤ x_4 then (
  gI 1846 (v2_1 + (3 : Int32)) (Let (sA th_3 9 (upd (th_3.2.1 9) (v2_1 + (3 : Int32)).toNatClampNeg (2 : Int32))) (fun th_5 : OS =>
  gI 1846 (9 : Int32) (Let ((th_5.2.1 9) (9 : Int32).toNatClampNeg) (fun x_6 : Int32 =>
  gI 1846 (9 : Int32) (Let (sA th_5 9 (upd (th_5.2.1 9) (9 : Int32).toNatClampNeg (x_6 + (1 : Int32)))) (fun th_7 : OS =>
  some th_7))))))) else (
  some th_3))))))))
def s_X9_takesBack_2 (n : Nat) (rc_2 : (OS) → (Int32) → Option (OS)) (th_j2 : OS) (w2_j2 : Int32) : Option (OS) :=
  if w2_j2 ≤ 0 then (
  some th_j2) else (
  bnd (f_X9_earliestBroken n th_j2) (fun (r_1 : Int32) =>
  bnd (f_X9_pagesOf n th_j2 r_1) (fun (r_2 : Int32) =>
  bnd (f_X9_lesser n w2_j2 r_2) (fun (r_3 : Int32) =>
  bnd (f_X9_frees n th_j2 r_1 r_3) (fun (th_4 : OS) =>
  bnd (f_X9_loan0 n th_4 r_1 (4 : Int32)) (fun (r_5 : Int32) =>
  gI 1846 (((58 : Int32) + ((6 : Int32) * r_1)) + (4 : Int32)) (Let (sA th_4 9 (upd (th_4.2.1 9) (((58 : Int32) + ((6 : Int32) * r_1)) + (4 : Int32)).toNatClampNeg (r_5 + r_3))) (fun th_6 : OS =>
  gI 1846 (5 : Int32) (Let ((th_6.2.1 9) (5 : Int32).toNatClampNeg) (fun x_7 : Int32 =>
  gI 1846 (5 : Int32) (Let (sA th_6 9 (upd (th_6.2.1 9) (5 : Int32).toNatClampNeg (x_7 + r_3))) (fun th_8 : OS =>
  Let (w2_j2 - r_3) (fun v2_9 : Int32 =>
  rc_2 th_8 v2_9)))))))))))))
def l_X9_takesBack_2 (n : Nat) : Nat → (OS) → (Int32) → Option (OS)
  | 0 => fun _ _ => none
  | N + 1 => s_X9_takesBack_2 n (l_X9_takesBack_2 n N)
def f_X9_takesBack (n : Nat) (th_0 : OS) (v1_0 : Int32) : Option (OS) :=
  l_X9_takesBack_2 n n th_0 v1_0
def f_X9_meets (n : Nat) (th_0 : OS) (v1_0 : Int32) : Option (OS) :=
  Let ((602 : Int32) + ((7 : Int32) * v1_0)) (fun v2_1 : Int32 =>
  gI 1846 (v2_1 + (0 : Int32)) (Let ((th_0.2.1 9) (v2_1 + (0 : Int32)).toNatClampNeg) (fun x_2 : Int32 =>
  gI 1846 (v2_1 + (3 : Int32)) (Let (sA th_0 9 (upd (th_0.2.1 9) (v2_1 + (3 : Int32)).toNatClampNeg (1 : Int32))) (fun th_3 : OS =>
  gI 1846 (6 : Int32) (Let ((th_3.2.1 9) (6 : Int32).toNatClampNeg) (fun x_4 : Int32 =>
  gI 1846 (v2_1 + (5 : Int32)) (Let (sA th_3 9 (upd (th_3.2.1 9) (v2_1 + (5 : Int32)).toNatClampNeg x_4)) (fun th_5 : OS =>
  gI 1846 (8 : Int32) (Let ((th_5.2.1 9) (8 : Int32).toNatClampNeg) (fun x_6 : Int32 =>
  gI 1846 (8 : Int32) (Let (sA th_5 9 (upd (th_5.2.1 9) (8 : Int32).toNatClampNeg (x_6 + (1 : Int32)))) (fun th_7 : OS =>
  bnd (f_X9_process0 n th_7 x_2 (3 : Int32)) (fun (r_8 : Int32) =>
  bnd (f_X9_sets n th_7 x_2 (3 : Int32) (r_8 + (1 : Int32))) (fun (th_9 : OS) =>
  gI 1846 (v2_1 + (1 : Int32)) (Let ((th_9.2.1 9) (v2_1 + (1 : Int32)).toNatClampNeg) (fun x_10 : Int32 =>
  gI 1846 (0 : Int32) (Let ((th_9.2.1 9) (0 : Int32).toNatClampNeg) (fun x_11 : Int32 =>
  gI 1846 (v2_1 + (2 : Int32)) (Let ((th_9.2.1 9) (v2_1 + (2 : Int32)).toNatClampNeg) (fun x_12 : Int32 =>
  bnd (f_X9_lends n 1846 (th_9.2.1 9) x_2 x_10 (x_11 + x_12) v1_0) (fun (y_13 : Nat → Int32) =>
  Let (sA th_9 9 y_13) (fun th_14 : OS =>
  some th_14)))))))))))))))))))))))
def j_X9_looksAt_50 (n : Nat) (v1_0 : Int32) (th_j50 : OS) (w2_j50 : Int32) : Option (OS) :=
  if w2_j50 ≤ 0 then (
  bnd (f_X9_meets n th_j50 v1_0) (fun (th_6 : OS) =>
  some th_6)) else (
  bnd (f_X9_takesBack n th_j50 w2_j50) (fun (th_7 : OS) =>
  bnd (f_X9_meets n th_7 v1_0) (fun (th_8 : OS) =>
  some th_8)))
def f_X9_looksAt (n : Nat) (th_0 : OS) (v1_0 : Int32) : Option (OS) :=
  bnd (f_X9_claim0 n th_0 v1_0 (0 : Int32)) (fun (r_1 : Int32) =>
  bnd (f_X9_process0 n th_0 r_1 (1 : Int32)) (fun (r_2 : Int32) =>
  if r_2 ≤ 0 then (
  bnd (f_X9_claim0 n th_0 v1_0 (1 : Int32)) (fun (r_3 : Int32) =>
  bnd (f_X9_free n th_0) (fun (r_4 : Int32) =>
  Let (r_3 - r_4) (fun v2_5 : Int32 =>
  if v2_5 ≤ 0 then (
  j_X9_looksAt_50 n v1_0 th_0 v2_5) else (
  bnd (f_X9_brokenPages n th_0) (fun (r_9 : Int32) =>
  if v2_5 ≤ r_9 then (
  j_X9_looksAt_50 n v1_0 th_0 v2_5) else (
  bnd (f_X9_putsOff n th_0 v1_0) (fun (th_10 : OS) =>
  some th_10)))))))) else (
  bnd (f_X9_putsOff n th_0 v1_0) (fun (th_11 : OS) =>
  some th_11))))
def j_X9_hears_32 (n : Nat) (th_j32 : OS) : Option (OS) :=
  gI 1846 (0 : Int32) (Let ((th_j32.2.1 9) (0 : Int32).toNatClampNeg) (fun x_4 : Int32 =>
  gI 1846 (3 : Int32) (Let (sA th_j32 9 (upd (th_j32.2.1 9) (3 : Int32).toNatClampNeg x_4)) (fun th_5 : OS =>
  gI 1846 (2 : Int32) (Let ((th_5.2.1 9) (2 : Int32).toNatClampNeg) (fun x_6 : Int32 =>
  gI 1846 (2 : Int32) (Let (sA th_5 9 (upd (th_5.2.1 9) (2 : Int32).toNatClampNeg (x_6 + (1 : Int32)))) (fun th_7 : OS =>
  some th_7))))))))
def s_X9_hears_11 (n : Nat) (w1_j11 : Int32) (rc_11 : (OS) → (Int32) → Option (OS)) (th_j11 : OS) (w2_j11 : Int32) : Option (OS) :=
  if w1_j11 ≤ w2_j11 then (
  j_X9_hears_32 n th_j11) else (
  gI 60 w2_j11 (Let ((th_j11.2.1 21) w2_j11.toNatClampNeg) (fun x_8 : Int32 =>
  bnd (f_X9_looksAt n th_j11 x_8) (fun (th_9 : OS) =>
  Let (w2_j11 + (1 : Int32)) (fun v2_10 : Int32 =>
  rc_11 th_9 v2_10)))))
def l_X9_hears_11 (n : Nat) (w1_j11 : Int32) : Nat → (OS) → (Int32) → Option (OS)
  | 0 => fun _ _ => none
  | N + 1 => s_X9_hears_11 n w1_j11 (l_X9_hears_11 n w1_j11 N)
def f_X9_hears (n : Nat) (th_0 : OS) : Option (OS) :=
  bnd (f_X9_finesAll n th_0) (fun (th_1 : OS) =>
  bnd2 (f_X9_lines n th_1) (fun (th_2 : OS) (r_3 : Int32) =>
  l_X9_hears_11 n r_3 n th_2 (0 : Int32)))
def f_X9_wordOf (n : Nat) (v0_0 : Int32) (v1_0 : Int32) : Option (Int32) :=
  some (((1342 : Int32) + ((63 : Int32) * v0_0)) + (v1_0 / (32 : Int32)))
def f_X9_stands (n : Nat) (th_0 : OS) (v1_0 : Int32) (v2_0 : Int32) : Option (OS) :=
  bnd (f_X9_process0 n th_0 v1_0 (2 : Int32)) (fun (r_1 : Int32) =>
  bnd (f_X9_sets n th_0 v1_0 (2 : Int32) (r_1 - (1 : Int32))) (fun (th_2 : OS) =>
  bnd (f_X9_process0 n th_2 v1_0 (5 : Int32)) (fun (r_3 : Int32) =>
  bnd (f_X9_sets n th_2 v1_0 (5 : Int32) (r_3 + (1 : Int32))) (fun (th_4 : OS) =>
  bnd (f_X9_wordOf n v1_0 v2_0) (fun (r_5 : Int32) =>
  bnd (f_X9_wordOf n v1_0 v2_0) (fun (r_6 : Int32) =>
  gI 1846 r_6 (Let ((th_4.2.1 9) r_6.toNatClampNeg) (fun x_7 : Int32 =>
  gI 1846 r_5 (Let (sA th_4 9 (upd (th_4.2.1 9) r_5.toNatClampNeg (x_7 ||| ((1 : Int32) <<< ((rm32 v2_0 (32 : Int32)) &&& 31))))) (fun th_8 : OS =>
  some th_8))))))))))
def j_X9_ticks_93 (n : Nat) (th_j93 : OS) (w1_j93 : Int32) : Option (OS) :=
  oN ((th_j93.1 3) = 0) (
  if (rm32 w1_j93 (th_j93.1 3)) = 0 then (
  bnd (f_X9_hears n th_j93) (fun (th_4 : OS) =>
  some th_4)) else (
  some th_j93))
def j_X9_ticks_64 (n : Nat) (w1_j18 : Int32) (rc_18 : (OS) → (Int32) → Option (OS)) (th_j64 : OS) (w2_j64 : Int32) : Option (OS) :=
  oN ((th_j64.1 5) = 0) (
  if (rm32 w1_j18 (th_j64.1 5)) = 0 then (
  bnd (f_X9_process0 n th_j64 w2_j64 (0 : Int32)) (fun (r_8 : Int32) =>
  bnd (f_X9_sets n th_j64 w2_j64 (0 : Int32) (r_8 / (2 : Int32))) (fun (th_9 : OS) =>
  Let (w2_j64 + (1 : Int32)) (fun v2_10 : Int32 =>
  rc_18 th_9 v2_10)))) else (
  Let (w2_j64 + (1 : Int32)) (fun v2_7 : Int32 =>
  rc_18 th_j64 v2_7)))
def j_X9_ticks_41 (n : Nat) (w1_j18 : Int32) (rc_18 : (OS) → (Int32) → Option (OS)) (th_j41 : OS) (w2_j41 : Int32) : Option (OS) :=
  bnd (f_X9_process0 n th_j41 w2_j41 (1 : Int32)) (fun (r_6 : Int32) =>
  if r_6 ≤ 0 then (
  j_X9_ticks_64 n w1_j18 rc_18 th_j41 w2_j41) else (
  bnd (f_X9_process0 n th_j41 w2_j41 (1 : Int32)) (fun (r_11 : Int32) =>
  bnd (f_X9_sets n th_j41 w2_j41 (1 : Int32) (r_11 - (1 : Int32))) (fun (th_12 : OS) =>
  j_X9_ticks_64 n w1_j18 rc_18 th_12 w2_j41))))
def s_X9_ticks_18 (n : Nat) (w1_j18 : Int32) (rc_18 : (OS) → (Int32) → Option (OS)) (th_j18 : OS) (w2_j18 : Int32) : Option (OS) :=
  if (th_j18.1 2) ≤ w2_j18 then (
  j_X9_ticks_93 n th_j18 w1_j18) else (
  bnd (f_X9_process0 n th_j18 w2_j18 (2 : Int32)) (fun (r_5 : Int32) =>
  if r_5 ≤ 0 then (
  j_X9_ticks_41 n w1_j18 rc_18 th_j18 w2_j18) else (
  bnd (f_X9_stands n th_j18 w2_j18 w1_j18) (fun (th_13 : OS) =>
  j_X9_ticks_41 n w1_j18 rc_18 th_13 w2_j18))))
def l_X9_ticks_18 (n : Nat) (w1_j18 : Int32) : Nat → (OS) → (Int32) → Option (OS)
  | 0 => fun _ _ => none
  | N + 1 => s_X9_ticks_18 n w1_j18 (l_X9_ticks_18 n w1_j18 N)
def f_X9_ticks (n : Nat) (th_0 : OS) : Option (OS) :=
  gI 1846 (0 : Int32) (Let ((th_0.2.1 9) (0 : Int32).toNatClampNeg) (fun x_1 : Int32 =>
  Let (x_1 + (1 : Int32)) (fun v1_2 : Int32 =>
  gI 1846 (0 : Int32) (Let (sA th_0 9 (upd (th_0.2.1 9) (0 : Int32).toNatClampNeg v1_2)) (fun th_3 : OS =>
  l_X9_ticks_18 n v1_2 n th_3 (0 : Int32))))))
def s_X9_goesOn_10 (n : Nat) (w1_j10 : Int32) (w2_j10 : Int32) (rc_10 : (OS) → (Int32) → Option (OS × Int32)) (th_j10 : OS) (w3_j10 : Int32) : Option (OS × Int32) :=
  if w1_j10 ≤ w3_j10 then (
  gI 1846 (8 : Int32) (Let ((th_j10.2.1 9) (8 : Int32).toNatClampNeg) (fun x_2 : Int32 =>
  some (th_j10, (x_2 - w2_j10))))) else (
  gI 1846 (0 : Int32) (Let ((th_j10.2.1 9) (0 : Int32).toNatClampNeg) (fun x_3 : Int32 =>
  if (2000 : Int32) ≤ x_3 then (
  gI 1846 (8 : Int32) (Let ((th_j10.2.1 9) (8 : Int32).toNatClampNeg) (fun x_4 : Int32 =>
  some (th_j10, (x_4 - w2_j10))))) else (
  bnd (f_X9_ticks n th_j10) (fun (th_5 : OS) =>
  Let (w3_j10 + (1 : Int32)) (fun v3_6 : Int32 =>
  rc_10 th_5 v3_6))))))
def l_X9_goesOn_10 (n : Nat) (w1_j10 : Int32) (w2_j10 : Int32) : Nat → (OS) → (Int32) → Option (OS × Int32)
  | 0 => fun _ _ => none
  | N + 1 => s_X9_goesOn_10 n w1_j10 w2_j10 (l_X9_goesOn_10 n w1_j10 w2_j10 N)
def f_X9_goesOn (n : Nat) (th_0 : OS) (v1_0 : Int32) : Option (OS × Int32) :=
  gI 1846 (8 : Int32) (Let ((th_0.2.1 9) (8 : Int32).toNatClampNeg) (fun x_1 : Int32 =>
  l_X9_goesOn_10 n v1_0 x_1 n th_0 (0 : Int32)))
def f_X9_timeOfHearing (n : Nat) (th_0 : OS) : Option (Int32) :=
  gI 1846 (0 : Int32) (Let ((th_0.2.1 9) (0 : Int32).toNatClampNeg) (fun x_1 : Int32 =>
  oN ((th_0.1 3) = 0) (
  Let (((x_1 / (th_0.1 3)) + (1 : Int32)) * (th_0.1 3)) (fun v1_2 : Int32 =>
  if v1_2 ≤ (2000 : Int32) then (
  some v1_2) else (
  some (-1 : Int32))))))
def f_X9_areTicks (n : Nat) (v0_0 : Int32) : Option (Int32) :=
  bnd (f_X9_isIn n ((v0_0).toInt64) (1 : Int64) (500 : Int64)) (fun (r_1 : Int32) =>
  gZ r_1 (some r_1))
def j_X9_run_31 (n : Nat) (v1_0 : Int32) (th_j31 : OS) (s1_j31 : Int32) : Option (OS × Int32) :=
  bnd2 (f_X9_may n th_j31 s1_j31 (2 : Int32)) (fun (th_5 : OS) (r_6 : Int32) =>
  if r_6 = 0 then (
  some (th_5, (0 : Int32))) else (
  bnd (f_X9_starts n th_5) (fun (th_7 : OS) =>
  bnd2 (f_X9_goesOn n th_7 v1_0) (fun (th_8 : OS) (r_9 : Int32) =>
  bnd2 (f_X9_done n th_8 r_9) (fun (th_10 : OS) (r_11 : Int32) =>
  some (th_10, r_11))))))
def f_X9_run (n : Nat) (th_0 : OS) (v1_0 : Int32) : Option (OS × Int32) :=
  bnd (f_X9_areTicks n v1_0) (fun (r_1 : Int32) =>
  bnd2 (f_X9_is n th_0 r_1) (fun (th_2 : OS) (r_3 : Int32) =>
  if r_3 = 0 then (
  some (th_2, (0 : Int32))) else (
  gI 1846 (0 : Int32) (Let ((th_2.2.1 9) (0 : Int32).toNatClampNeg) (fun x_4 : Int32 =>
  if (2000 : Int32) < (x_4 + v1_0) then (
  j_X9_run_31 n v1_0 th_2 (0 : Int32)) else (
  j_X9_run_31 n v1_0 th_2 (1 : Int32)))))))
def j_X9_ask_71 (n : Nat) (v1_0 : Int32) (v2_0 : Int32) (v3_0 : Int32) (th_j71 : OS) (s1_j71 : Int32) : Option (OS × Int32) :=
  bnd2 (f_X9_may n th_j71 s1_j71 (3 : Int32)) (fun (th_8 : OS) (r_9 : Int32) =>
  if r_9 = 0 then (
  some (th_8, (0 : Int32))) else (
  bnd (f_X9_starts n th_8) (fun (th_10 : OS) =>
  bnd2 (f_X9_asks n 1846 (th_10.2.1 9) v1_0 v2_0 v3_0) (fun (y_11 : Nat → Int32) (r_12 : Int32) =>
  Let (sA th_10 9 y_11) (fun th_13 : OS =>
  bnd2 (f_X9_done n th_13 r_12) (fun (th_14 : OS) (r_15 : Int32) =>
  some (th_14, r_15)))))))
def j_X9_ask_44 (n : Nat) (v1_0 : Int32) (v2_0 : Int32) (v3_0 : Int32) (th_j44 : OS) (s1_j44 : Int32) : Option (OS × Int32) :=
  bnd2 (f_X9_may n th_j44 s1_j44 (2 : Int32)) (fun (th_5 : OS) (r_6 : Int32) =>
  if r_6 = 0 then (
  some (th_5, (0 : Int32))) else (
  gI 1846 (7 : Int32) (Let ((th_5.2.1 9) (7 : Int32).toNatClampNeg) (fun x_7 : Int32 =>
  if (60 : Int32) ≤ x_7 then (
  j_X9_ask_71 n v1_0 v2_0 v3_0 th_5 (0 : Int32)) else (
  j_X9_ask_71 n v1_0 v2_0 v3_0 th_5 (1 : Int32))))))
def f_X9_ask (n : Nat) (th_0 : OS) (v1_0 : Int32) (v2_0 : Int32) (v3_0 : Int32) : Option (OS × Int32) :=
  bnd (f_X9_isProcess n th_0 v1_0) (fun (r_1 : Int32) =>
  bnd2 (f_X9_is n th_0 r_1) (fun (th_2 : OS) (r_3 : Int32) =>
  if r_3 = 0 then (
  some (th_2, (0 : Int32))) else (
  bnd (f_X9_isIn n ((v2_0).toInt64) (1 : Int64) (((th_2.1 1)).toInt64)) (fun (r_4 : Int32) =>
  if r_4 = 0 then (
  j_X9_ask_44 n v1_0 v2_0 v3_0 th_2 (0 : Int32)) else (
  bnd (f_X9_isIn n ((v3_0).toInt64) (1 : Int64) (99 : Int64)) (fun (r_16 : Int32) =>
  if r_16 = 0 then (
  j_X9_ask_44 n v1_0 v2_0 v3_0 th_2 (0 : Int32)) else (
  j_X9_ask_44 n v1_0 v2_0 v3_0 th_2 (1 : Int32))))))))
def f_X9_withdraw (n : Nat) (th_0 : OS) (v1_0 : Int32) : Option (OS × Int32) :=
  bnd (f_X9_isClaim n th_0 v1_0) (fun (r_1 : Int32) =>
  bnd2 (f_X9_is n th_0 r_1) (fun (th_2 : OS) (r_3 : Int32) =>
  if r_3 = 0 then (
  some (th_2, (0 : Int32))) else (
  bnd (f_X9_doesWait n th_2 v1_0) (fun (r_4 : Int32) =>
  bnd2 (f_X9_may n th_2 r_4 (2 : Int32)) (fun (th_5 : OS) (r_6 : Int32) =>
  if r_6 = 0 then (
  some (th_5, (0 : Int32))) else (
  bnd (f_X9_starts n th_5) (fun (th_7 : OS) =>
  gI 1846 (((602 : Int32) + ((7 : Int32) * v1_0)) + (3 : Int32)) (Let (sA th_7 9 (upd (th_7.2.1 9) (((602 : Int32) + ((7 : Int32) * v1_0)) + (3 : Int32)).toNatClampNeg (3 : Int32))) (fun th_8 : OS =>
  bnd (f_X9_claim0 n th_8 v1_0 (4 : Int32)) (fun (r_9 : Int32) =>
  bnd2 (f_X9_done n th_8 r_9) (fun (th_10 : OS) (r_11 : Int32) =>
  some (th_10, r_11))))))))))))
def f_X9_giveBack (n : Nat) (th_0 : OS) (v1_0 : Int32) (v2_0 : Int32) : Option (OS × Int32) :=
  bnd (f_X9_isLoan n th_0 v1_0) (fun (r_1 : Int32) =>
  bnd2 (f_X9_is n th_0 r_1) (fun (th_2 : OS) (r_3 : Int32) =>
  if r_3 = 0 then (
  some (th_2, (0 : Int32))) else (
  bnd (f_X9_pagesOf n th_2 v1_0) (fun (r_4 : Int32) =>
  bnd (f_X9_isIn n ((v2_0).toInt64) (1 : Int64) ((r_4).toInt64)) (fun (r_5 : Int32) =>
  bnd2 (f_X9_may n th_2 r_5 (2 : Int32)) (fun (th_6 : OS) (r_7 : Int32) =>
  if r_7 = 0 then (
  some (th_6, (0 : Int32))) else (
  bnd (f_X9_starts n th_6) (fun (th_8 : OS) =>
  bnd (f_X9_frees n th_8 v1_0 v2_0) (fun (th_9 : OS) =>
  bnd (f_X9_pagesOf n th_9 v1_0) (fun (r_10 : Int32) =>
  bnd2 (f_X9_done n th_9 r_10) (fun (th_11 : OS) (r_12 : Int32) =>
  some (th_11, r_12))))))))))))
def s_X9_doOthersWait_2 (n : Nat) (th_0 : OS) (w1_j2 : Int32) (rc_2 : (Int32) → Option (Int32)) (w2_j2 : Int32) : Option (Int32) :=
  gI 1846 (7 : Int32) (Let ((th_0.2.1 9) (7 : Int32).toNatClampNeg) (fun x_1 : Int32 =>
  if x_1 ≤ w2_j2 then (
  some (0 : Int32)) else (
  bnd (f_X9_doesWait n th_0 w2_j2) (fun (r_2 : Int32) =>
  if r_2 = 0 then (
  Let (w2_j2 + (1 : Int32)) (fun v2_3 : Int32 =>
  rc_2 v2_3)) else (
  bnd (f_X9_claim0 n th_0 w2_j2 (0 : Int32)) (fun (r_4 : Int32) =>
  if r_4 = w1_j2 then (
  Let (w2_j2 + (1 : Int32)) (fun v2_5 : Int32 =>
  rc_2 v2_5)) else (
  some (1 : Int32))))))))
def l_X9_doOthersWait_2 (n : Nat) (th_0 : OS) (w1_j2 : Int32) : Nat → (Int32) → Option (Int32)
  | 0 => fun _ => none
  | N + 1 => s_X9_doOthersWait_2 n th_0 w1_j2 (l_X9_doOthersWait_2 n th_0 w1_j2 N)
def f_X9_doOthersWait (n : Nat) (th_0 : OS) (v1_0 : Int32) : Option (Int32) :=
  l_X9_doOthersWait_2 n th_0 v1_0 n (0 : Int32)
def f_X9_canRenew (n : Nat) (th_0 : OS) (v1_0 : Int32) : Option (Int32) :=
  bnd (f_X9_loan0 n th_0 v1_0 (0 : Int32)) (fun (r_1 : Int32) =>
  bnd (f_X9_pagesOf n th_0 v1_0) (fun (r_2 : Int32) =>
  if r_2 ≤ 0 then (
  some (0 : Int32)) else (
  bnd (f_X9_isBrokenLoan n th_0 v1_0) (fun (r_3 : Int32) =>
  if r_3 = 0 then (
  bnd (f_X9_process0 n th_0 r_1 (0 : Int32)) (fun (r_4 : Int32) =>
  if r_4 = 0 then (
  bnd (f_X9_doOthersWait n th_0 r_1) (fun (r_5 : Int32) =>
  if r_5 = 0 then (
  some (1 : Int32)) else (
  some (0 : Int32)))) else (
  some (0 : Int32)))) else (
  some (0 : Int32))))))
def f_X9_renew (n : Nat) (th_0 : OS) (v1_0 : Int32) (v2_0 : Int32) : Option (OS × Int32) :=
  bnd (f_X9_isLoan n th_0 v1_0) (fun (r_1 : Int32) =>
  bnd2 (f_X9_is n th_0 r_1) (fun (th_2 : OS) (r_3 : Int32) =>
  if r_3 = 0 then (
  some (th_2, (0 : Int32))) else (
  bnd (f_X9_isIn n ((v2_0).toInt64) (1 : Int64) (99 : Int64)) (fun (r_4 : Int32) =>
  bnd2 (f_X9_may n th_2 r_4 (2 : Int32)) (fun (th_5 : OS) (r_6 : Int32) =>
  if r_6 = 0 then (
  some (th_5, (0 : Int32))) else (
  bnd (f_X9_canRenew n th_5 v1_0) (fun (r_7 : Int32) =>
  bnd2 (f_X9_may n th_5 r_7 (3 : Int32)) (fun (th_8 : OS) (r_9 : Int32) =>
  if r_9 = 0 then (
  some (th_8, (0 : Int32))) else (
  bnd (f_X9_starts n th_8) (fun (th_10 : OS) =>
  Let (((58 : Int32) + ((6 : Int32) * v1_0)) + (1 : Int32)) (fun v3_11 : Int32 =>
  gI 1846 v3_11 (Let ((th_10.2.1 9) v3_11.toNatClampNeg) (fun x_12 : Int32 =>
  gI 1846 v3_11 (Let (sA th_10 9 (upd (th_10.2.1 9) v3_11.toNatClampNeg (x_12 + v2_0))) (fun th_13 : OS =>
  gI 1846 v3_11 (Let ((th_13.2.1 9) v3_11.toNatClampNeg) (fun x_14 : Int32 =>
  bnd2 (f_X9_done n th_13 x_14) (fun (th_15 : OS) (r_16 : Int32) =>
  some (th_15, r_16)))))))))))))))))))
def f_X9_stall (n : Nat) (th_0 : OS) (v1_0 : Int32) (v2_0 : Int32) : Option (OS × Int32) :=
  bnd (f_X9_isProcess n th_0 v1_0) (fun (r_1 : Int32) =>
  bnd2 (f_X9_is n th_0 r_1) (fun (th_2 : OS) (r_3 : Int32) =>
  if r_3 = 0 then (
  some (th_2, (0 : Int32))) else (
  bnd (f_X9_isIn n ((v2_0).toInt64) (0 : Int64) (99 : Int64)) (fun (r_4 : Int32) =>
  bnd2 (f_X9_may n th_2 r_4 (2 : Int32)) (fun (th_5 : OS) (r_6 : Int32) =>
  if r_6 = 0 then (
  some (th_5, (0 : Int32))) else (
  bnd (f_X9_starts n th_5) (fun (th_7 : OS) =>
  bnd (f_X9_process0 n th_7 v1_0 (2 : Int32)) (fun (r_8 : Int32) =>
  bnd (f_X9_sets n th_7 v1_0 (2 : Int32) v2_0) (fun (th_9 : OS) =>
  bnd2 (f_X9_done n th_9 r_8) (fun (th_10 : OS) (r_11 : Int32) =>
  some (th_10, r_11)))))))))))
def f_X9_wasStalledIn (n : Nat) (th_0 : OS) (v1_0 : Int32) (v2_0 : Int32) : Option (Int32) :=
  bnd (f_X9_wordOf n v1_0 v2_0) (fun (r_1 : Int32) =>
  gI 1846 r_1 (Let ((th_0.2.1 9) r_1.toNatClampNeg) (fun x_2 : Int32 =>
  if ((x_2 >>> ((rm32 v2_0 (32 : Int32)) &&& 31)) &&& (1 : Int32)) = (1 : Int32) then (
  some (1 : Int32)) else (
  some (0 : Int32)))))
def s_X9_evidenceFor_11 (n : Nat) (th_0 : OS) (w1_j11 : Int32) (rc_11 : (Int32) → (Int32) → Option (Int32)) (w2_j11 : Int32) (w3_j11 : Int32) : Option (Int32) :=
  bnd (f_X9_fine0 n th_0 w1_j11 (4 : Int32)) (fun (r_3 : Int32) =>
  if r_3 < w3_j11 then (
  some w2_j11) else (
  bnd (f_X9_fine0 n th_0 w1_j11 (0 : Int32)) (fun (r_4 : Int32) =>
  bnd (f_X9_wasStalledIn n th_0 r_4 w3_j11) (fun (r_5 : Int32) =>
  if r_5 = 0 then (
  Let (w3_j11 + (1 : Int32)) (fun v3_6 : Int32 =>
  rc_11 w2_j11 v3_6)) else (
  Let (w2_j11 + (1 : Int32)) (fun v2_7 : Int32 =>
  Let (w3_j11 + (1 : Int32)) (fun v3_8 : Int32 =>
  rc_11 v2_7 v3_8)))))))
def l_X9_evidenceFor_11 (n : Nat) (th_0 : OS) (w1_j11 : Int32) : Nat → (Int32) → (Int32) → Option (Int32)
  | 0 => fun _ _ => none
  | N + 1 => s_X9_evidenceFor_11 n th_0 w1_j11 (l_X9_evidenceFor_11 n th_0 w1_j11 N)
def f_X9_evidenceFor (n : Nat) (th_0 : OS) (v1_0 : Int32) : Option (Int32) :=
  bnd (f_X9_fine0 n th_0 v1_0 (3 : Int32)) (fun (r_1 : Int32) =>
  Let (r_1 + (1 : Int32)) (fun v3_2 : Int32 =>
  l_X9_evidenceFor_11 n th_0 v1_0 n (0 : Int32) v3_2))
def f_X9_lengthOf (n : Nat) (th_0 : OS) (v1_0 : Int32) : Option (Int32) :=
  bnd (f_X9_fine0 n th_0 v1_0 (4 : Int32)) (fun (r_1 : Int32) =>
  bnd (f_X9_fine0 n th_0 v1_0 (3 : Int32)) (fun (r_2 : Int32) =>
  some (r_1 - r_2)))
def f_X9_canAppeal (n : Nat) (th_0 : OS) (v1_0 : Int32) : Option (Int32) :=
  bnd (f_X9_fine0 n th_0 v1_0 (6 : Int32)) (fun (r_1 : Int32) =>
  if r_1 = 0 then (
  gI 1846 (0 : Int32) (Let ((th_0.2.1 9) (0 : Int32).toNatClampNeg) (fun x_2 : Int32 =>
  bnd (f_X9_fine0 n th_0 v1_0 (4 : Int32)) (fun (r_3 : Int32) =>
  if (r_3 + (th_0.1 7)) < x_2 then (
  some (0 : Int32)) else (
  some (1 : Int32)))))) else (
  some (0 : Int32)))
def f_X9_lessBy (n : Nat) (th_0 : OS) (v1_0 : Int32) : Option (Int32) :=
  bnd (f_X9_fine0 n th_0 v1_0 (5 : Int32)) (fun (r_1 : Int32) =>
  bnd (f_X9_lengthOf n th_0 v1_0) (fun (r_2 : Int32) =>
  bnd (f_X9_evidenceFor n th_0 v1_0) (fun (r_3 : Int32) =>
  bnd (f_X9_lengthOf n th_0 v1_0) (fun (r_4 : Int32) =>
  bnd (f_X9_upwards n (r_1 * (r_2 - r_3)) r_4) (fun (r_5 : Int32) =>
  some (r_1 - r_5))))))
def f_X9_appeal (n : Nat) (th_0 : OS) (v1_0 : Int32) : Option (OS × Int32) :=
  bnd (f_X9_isKnown n th_0 v1_0) (fun (r_1 : Int32) =>
  bnd2 (f_X9_may n th_0 r_1 (2 : Int32)) (fun (th_2 : OS) (r_3 : Int32) =>
  if r_3 = 0 then (
  some (th_2, (0 : Int32))) else (
  bnd (f_X9_canAppeal n th_2 v1_0) (fun (r_4 : Int32) =>
  bnd2 (f_X9_may n th_2 r_4 (1 : Int32)) (fun (th_5 : OS) (r_6 : Int32) =>
  if r_6 = 0 then (
  some (th_5, (0 : Int32))) else (
  bnd (f_X9_starts n th_5) (fun (th_7 : OS) =>
  bnd (f_X9_fine0 n th_7 v1_0 (0 : Int32)) (fun (r_8 : Int32) =>
  bnd (f_X9_lessBy n th_7 v1_0) (fun (r_9 : Int32) =>
  bnd (f_X9_fine0 n th_7 v1_0 (2 : Int32)) (fun (r_10 : Int32) =>
  bnd (f_X9_evidenceFor n th_7 v1_0) (fun (r_11 : Int32) =>
  bnd (f_X9_lengthOf n th_7 v1_0) (fun (r_12 : Int32) =>
  oN (r_12 = 0) (
  Let ((r_10 * r_11) / r_12) (fun v4_13 : Int32 =>
  bnd (f_X9_fineAt n v1_0) (fun (r_14 : Int32) =>
  bnd (f_X9_fine0 n th_7 v1_0 (5 : Int32)) (fun (r_15 : Int32) =>
  gI 1846 (r_14 + (5 : Int32)) (Let (sA th_7 9 (upd (th_7.2.1 9) (r_14 + (5 : Int32)).toNatClampNeg (r_15 - r_9))) (fun th_16 : OS =>
  bnd (f_X9_fineAt n v1_0) (fun (r_17 : Int32) =>
  gI 1846 (r_17 + (6 : Int32)) (Let (sA th_16 9 (upd (th_16.2.1 9) (r_17 + (6 : Int32)).toNatClampNeg (1 : Int32))) (fun th_18 : OS =>
  bnd (f_X9_process0 n th_18 r_8 (1 : Int32)) (fun (r_19 : Int32) =>
  bnd (f_X9_greater n (0 : Int32) (r_19 - r_9)) (fun (r_20 : Int32) =>
  bnd (f_X9_sets n th_18 r_8 (1 : Int32) r_20) (fun (th_21 : OS) =>
  bnd (f_X9_process0 n th_21 r_8 (0 : Int32)) (fun (r_22 : Int32) =>
  bnd (f_X9_greater n (0 : Int32) (r_22 - v4_13)) (fun (r_23 : Int32) =>
  bnd (f_X9_sets n th_21 r_8 (0 : Int32) r_23) (fun (th_24 : OS) =>
  bnd2 (f_X9_done n th_24 r_9) (fun (th_25 : OS) (r_26 : Int32) =>
  some (th_25, r_26)))))))))))))))))))))))))))))
def f_X9_isOrder (n : Nat) (v0_0 : Int32) : Option (Int32) :=
  bnd (f_X9_isIn n ((v0_0).toInt64) (0 : Int64) (2 : Int64)) (fun (r_1 : Int32) =>
  gZ r_1 (some r_1))
def f_X9_setOrder (n : Nat) (th_0 : OS) (v1_0 : Int32) : Option (OS × Int32) :=
  bnd (f_X9_isOrder n v1_0) (fun (r_1 : Int32) =>
  bnd2 (f_X9_is n th_0 r_1) (fun (th_2 : OS) (r_3 : Int32) =>
  if r_3 = 0 then (
  some (th_2, (0 : Int32))) else (
  bnd (f_X9_starts n th_2) (fun (th_4 : OS) =>
  gI 1846 (1 : Int32) (Let ((th_4.2.1 9) (1 : Int32).toNatClampNeg) (fun x_5 : Int32 =>
  gI 1846 (1 : Int32) (Let (sA th_4 9 (upd (th_4.2.1 9) (1 : Int32).toNatClampNeg v1_0)) (fun th_6 : OS =>
  bnd2 (f_X9_done n th_6 x_5) (fun (th_7 : OS) (r_8 : Int32) =>
  some (th_7, r_8))))))))))
def s_X9_openLoans_4 (n : Nat) (th_0 : OS) (w1_j4 : Int32) (rc_4 : (Int32) → (Int32) → Option (Int32)) (w2_j4 : Int32) (w3_j4 : Int32) : Option (Int32) :=
  gI 1846 (6 : Int32) (Let ((th_0.2.1 9) (6 : Int32).toNatClampNeg) (fun x_1 : Int32 =>
  if x_1 ≤ w3_j4 then (
  some w2_j4) else (
  if w1_j4 = 0 then (
  bnd (f_X9_pagesOf n th_0 w3_j4) (fun (r_2 : Int32) =>
  if r_2 ≤ 0 then (
  Let (w3_j4 + (1 : Int32)) (fun v3_3 : Int32 =>
  rc_4 w2_j4 v3_3)) else (
  Let (w2_j4 + (1 : Int32)) (fun v2_4 : Int32 =>
  Let (w3_j4 + (1 : Int32)) (fun v3_5 : Int32 =>
  rc_4 v2_4 v3_5))))) else (
  bnd (f_X9_isBrokenLoan n th_0 w3_j4) (fun (r_6 : Int32) =>
  if r_6 = 0 then (
  Let (w3_j4 + (1 : Int32)) (fun v3_7 : Int32 =>
  rc_4 w2_j4 v3_7)) else (
  Let (w2_j4 + (1 : Int32)) (fun v2_8 : Int32 =>
  Let (w3_j4 + (1 : Int32)) (fun v3_9 : Int32 =>
  rc_4 v2_8 v3_9))))))))
def l_X9_openLoans_4 (n : Nat) (th_0 : OS) (w1_j4 : Int32) : Nat → (Int32) → (Int32) → Option (Int32)
  | 0 => fun _ _ => none
  | N + 1 => s_X9_openLoans_4 n th_0 w1_j4 (l_X9_openLoans_4 n th_0 w1_j4 N)
def f_X9_openLoans (n : Nat) (th_0 : OS) (v1_0 : Int32) : Option (Int32) :=
  l_X9_openLoans_4 n th_0 v1_0 n (0 : Int32) (0 : Int32)
def s_X9_waitingMany_4 (n : Nat) (th_0 : OS) (rc_4 : (Int32) → (Int32) → Option (Int32)) (w1_j4 : Int32) (w2_j4 : Int32) : Option (Int32) :=
  gI 1846 (7 : Int32) (Let ((th_0.2.1 9) (7 : Int32).toNatClampNeg) (fun x_1 : Int32 =>
  if x_1 ≤ w2_j4 then (
  some w1_j4) else (
  bnd (f_X9_doesWait n th_0 w2_j4) (fun (r_2 : Int32) =>
  if r_2 = 0 then (
  Let (w2_j4 + (1 : Int32)) (fun v2_3 : Int32 =>
  rc_4 w1_j4 v2_3)) else (
  Let (w1_j4 + (1 : Int32)) (fun v1_4 : Int32 =>
  Let (w2_j4 + (1 : Int32)) (fun v2_5 : Int32 =>
  rc_4 v1_4 v2_5)))))))
def l_X9_waitingMany_4 (n : Nat) (th_0 : OS) : Nat → (Int32) → (Int32) → Option (Int32)
  | 0 => fun _ _ => none
  | N + 1 => s_X9_waitingMany_4 n th_0 (l_X9_waitingMany_4 n th_0 N)
def f_X9_waitingMany (n : Nat) (th_0 : OS) : Option (Int32) :=
  l_X9_waitingMany_4 n th_0 n (0 : Int32) (0 : Int32)
def f_X9_count (n : Nat) (th_0 : OS) (v1_0 : Int32) : Option (OS × Int32) :=
  Let (sI th_0 0 (0 : Int32)) (fun th_1 : OS =>
  if (v1_0).toInt < 0 ∨ 20 < (v1_0).toInt then (
  some (th_1, (-1 : Int32))) else (if v1_0 = (0 : Int32) then (
  some (th_1, (th_1.1 1))) else (if v1_0 = (1 : Int32) then (
  some (th_1, (th_1.1 2))) else (if v1_0 = (2 : Int32) then (
  gI 1846 (0 : Int32) (Let ((th_1.2.1 9) (0 : Int32).toNatClampNeg) (fun x_2 : Int32 =>
  some (th_1, x_2)))) else (if v1_0 = (3 : Int32) then (
  gI 1846 (1 : Int32) (Let ((th_1.2.1 9) (1 : Int32).toNatClampNeg) (fun x_3 : Int32 =>
  some (th_1, x_3)))) else (if v1_0 = (4 : Int32) then (
  some (th_1, (th_1.1 3))) else (if v1_0 = (5 : Int32) then (
  some (th_1, (th_1.1 4))) else (if v1_0 = (6 : Int32) then (
  some (th_1, (th_1.1 5))) else (if v1_0 = (7 : Int32) then (
  some (th_1, (th_1.1 6))) else (if v1_0 = (8 : Int32) then (
  some (th_1, (th_1.1 7))) else (if v1_0 = (9 : Int32) then (
  bnd (f_X9_free n th_1) (fun (r_4 : Int32) =>
  some (th_1, r_4))) else (if v1_0 = (10 : Int32) then (
  gI 1846 (6 : Int32) (Let ((th_1.2.1 9) (6 : Int32).toNatClampNeg) (fun x_5 : Int32 =>
  some (th_1, x_5)))) else (if v1_0 = (11 : Int32) then (
  bnd (f_X9_openLoans n th_1 (0 : Int32)) (fun (r_6 : Int32) =>
  some (th_1, r_6))) else (if v1_0 = (12 : Int32) then (
  bnd (f_X9_openLoans n th_1 (1 : Int32)) (fun (r_7 : Int32) =>
  some (th_1, r_7))) else (if v1_0 = (13 : Int32) then (
  gI 1846 (7 : Int32) (Let ((th_1.2.1 9) (7 : Int32).toNatClampNeg) (fun x_8 : Int32 =>
  some (th_1, x_8)))) else (if v1_0 = (14 : Int32) then (
  bnd (f_X9_waitingMany n th_1) (fun (r_9 : Int32) =>
  some (th_1, r_9))) else (if v1_0 = (15 : Int32) then (
  gI 1846 (8 : Int32) (Let ((th_1.2.1 9) (8 : Int32).toNatClampNeg) (fun x_10 : Int32 =>
  some (th_1, x_10)))) else (if v1_0 = (16 : Int32) then (
  gI 1846 (9 : Int32) (Let ((th_1.2.1 9) (9 : Int32).toNatClampNeg) (fun x_11 : Int32 =>
  some (th_1, x_11)))) else (if v1_0 = (17 : Int32) then (
  gI 1846 (2 : Int32) (Let ((th_1.2.1 9) (2 : Int32).toNatClampNeg) (fun x_12 : Int32 =>
  some (th_1, x_12)))) else (if v1_0 = (18 : Int32) then (
  gI 1846 (4 : Int32) (Let ((th_1.2.1 9) (4 : Int32).toNatClampNeg) (fun x_13 : Int32 =>
  some (th_1, x_13)))) else (if v1_0 = (19 : Int32) then (
  gI 1846 (5 : Int32) (Let ((th_1.2.1 9) (5 : Int32).toNatClampNeg) (fun x_14 : Int32 =>
  some (th_1, x_14)))) else (some (th_1, (th_1.1 15))))))))))))))))))))))))
def s_X9_pagesOfAll_4 (n : Nat) (th_0 : OS) (w1_j4 : Int32) (rc_4 : (Int32) → (Int32) → Option (Int32)) (w2_j4 : Int32) (w3_j4 : Int32) : Option (Int32) :=
  gI 1846 (6 : Int32) (Let ((th_0.2.1 9) (6 : Int32).toNatClampNeg) (fun x_1 : Int32 =>
  if x_1 ≤ w3_j4 then (
  some w2_j4) else (
  bnd (f_X9_loan0 n th_0 w3_j4 (0 : Int32)) (fun (r_2 : Int32) =>
  if r_2 = w1_j4 then (
  bnd (f_X9_pagesOf n th_0 w3_j4) (fun (r_4 : Int32) =>
  Let (w2_j4 + r_4) (fun v2_5 : Int32 =>
  Let (w3_j4 + (1 : Int32)) (fun v3_6 : Int32 =>
  rc_4 v2_5 v3_6)))) else (
  Let (w3_j4 + (1 : Int32)) (fun v3_3 : Int32 =>
  rc_4 w2_j4 v3_3))))))
def l_X9_pagesOfAll_4 (n : Nat) (th_0 : OS) (w1_j4 : Int32) : Nat → (Int32) → (Int32) → Option (Int32)
  | 0 => fun _ _ => none
  | N + 1 => s_X9_pagesOfAll_4 n th_0 w1_j4 (l_X9_pagesOfAll_4 n th_0 w1_j4 N)
def f_X9_pagesOfAll (n : Nat) (th_0 : OS) (v1_0 : Int32) : Option (Int32) :=
  l_X9_pagesOfAll_4 n th_0 v1_0 n (0 : Int32) (0 : Int32)
def s_X9_loansOf_5 (n : Nat) (th_0 : OS) (w1_j5 : Int32) (w2_j5 : Int32) (rc_5 : (Int32) → (Int32) → Option (Int32)) (w3_j5 : Int32) (w4_j5 : Int32) : Option (Int32) :=
  gI 1846 (6 : Int32) (Let ((th_0.2.1 9) (6 : Int32).toNatClampNeg) (fun x_1 : Int32 =>
  if x_1 ≤ w4_j5 then (
  some w3_j5) else (
  bnd (f_X9_loan0 n th_0 w4_j5 (0 : Int32)) (fun (r_2 : Int32) =>
  if r_2 = w1_j5 then (
  if w2_j5 = 0 then (
  bnd (f_X9_pagesOf n th_0 w4_j5) (fun (r_4 : Int32) =>
  if r_4 ≤ 0 then (
  Let (w4_j5 + (1 : Int32)) (fun v4_5 : Int32 =>
  rc_5 w3_j5 v4_5)) else (
  Let (w3_j5 + (1 : Int32)) (fun v3_6 : Int32 =>
  Let (w4_j5 + (1 : Int32)) (fun v4_7 : Int32 =>
  rc_5 v3_6 v4_7))))) else (
  bnd (f_X9_isBrokenLoan n th_0 w4_j5) (fun (r_8 : Int32) =>
  if r_8 = 0 then (
  Let (w4_j5 + (1 : Int32)) (fun v4_9 : Int32 =>
  rc_5 w3_j5 v4_9)) else (
  Let (w3_j5 + (1 : Int32)) (fun v3_10 : Int32 =>
  Let (w4_j5 + (1 : Int32)) (fun v4_11 : Int32 =>
  rc_5 v3_10 v4_11)))))) else (
  Let (w4_j5 + (1 : Int32)) (fun v4_3 : Int32 =>
  rc_5 w3_j5 v4_3))))))
def l_X9_loansOf_5 (n : Nat) (th_0 : OS) (w1_j5 : Int32) (w2_j5 : Int32) : Nat → (Int32) → (Int32) → Option (Int32)
  | 0 => fun _ _ => none
  | N + 1 => s_X9_loansOf_5 n th_0 w1_j5 w2_j5 (l_X9_loansOf_5 n th_0 w1_j5 w2_j5 N)
def f_X9_loansOf (n : Nat) (th_0 : OS) (v1_0 : Int32) (v2_0 : Int32) : Option (Int32) :=
  l_X9_loansOf_5 n th_0 v1_0 v2_0 n (0 : Int32) (0 : Int32)
def s_X9_waitingOf_4 (n : Nat) (th_0 : OS) (w1_j4 : Int32) (rc_4 : (Int32) → (Int32) → Option (Int32)) (w2_j4 : Int32) (w3_j4 : Int32) : Option (Int32) :=
  gI 1846 (7 : Int32) (Let ((th_0.2.1 9) (7 : Int32).toNatClampNeg) (fun x_1 : Int32 =>
  if x_1 ≤ w3_j4 then (
  some w2_j4) else (
  bnd (f_X9_doesWait n th_0 w3_j4) (fun (r_2 : Int32) =>
  if r_2 = 0 then (
  Let (w3_j4 + (1 : Int32)) (fun v3_3 : Int32 =>
  rc_4 w2_j4 v3_3)) else (
  bnd (f_X9_claim0 n th_0 w3_j4 (0 : Int32)) (fun (r_4 : Int32) =>
  if r_4 = w1_j4 then (
  Let (w2_j4 + (1 : Int32)) (fun v2_6 : Int32 =>
  Let (w3_j4 + (1 : Int32)) (fun v3_7 : Int32 =>
  rc_4 v2_6 v3_7))) else (
  Let (w3_j4 + (1 : Int32)) (fun v3_5 : Int32 =>
  rc_4 w2_j4 v3_5))))))))
def l_X9_waitingOf_4 (n : Nat) (th_0 : OS) (w1_j4 : Int32) : Nat → (Int32) → (Int32) → Option (Int32)
  | 0 => fun _ _ => none
  | N + 1 => s_X9_waitingOf_4 n th_0 w1_j4 (l_X9_waitingOf_4 n th_0 w1_j4 N)
def f_X9_waitingOf (n : Nat) (th_0 : OS) (v1_0 : Int32) : Option (Int32) :=
  l_X9_waitingOf_4 n th_0 v1_0 n (0 : Int32) (0 : Int32)
def j_X9_process_84 (n : Nat) (v1_0 : Int32) (v2_0 : Int32) (th_j84 : OS) : Option (OS × Int32) :=
  bnd (f_X9_process0 n th_j84 v1_0 v2_0) (fun (r_4 : Int32) =>
  some (th_j84, r_4))
def j_X9_process_26 (n : Nat) (v1_0 : Int32) (v2_0 : Int32) (th_j26 : OS) (s1_j26 : Int32) : Option (OS × Int32) :=
  bnd2 (f_X9_is n th_j26 s1_j26) (fun (th_2 : OS) (r_3 : Int32) =>
  if r_3 = 0 then (
  some (th_2, (0 : Int32))) else (
  if (v2_0).toInt < 0 ∨ 8 < (v2_0).toInt then (
  bnd (f_X9_process0 n th_2 v1_0 (5 : Int32)) (fun (r_5 : Int32) =>
  some (th_2, r_5))) else (if v2_0 = (0 : Int32) then (
  j_X9_process_84 n v1_0 v2_0 th_2) else (if v2_0 = (1 : Int32) then (
  j_X9_process_84 n v1_0 v2_0 th_2) else (if v2_0 = (2 : Int32) then (
  j_X9_process_84 n v1_0 v2_0 th_2) else (if v2_0 = (3 : Int32) then (
  bnd (f_X9_pagesOfAll n th_2 v1_0) (fun (r_6 : Int32) =>
  some (th_2, r_6))) else (if v2_0 = (4 : Int32) then (
  bnd (f_X9_loansOf n th_2 v1_0 (0 : Int32)) (fun (r_7 : Int32) =>
  some (th_2, r_7))) else (if v2_0 = (5 : Int32) then (
  bnd (f_X9_loansOf n th_2 v1_0 (1 : Int32)) (fun (r_8 : Int32) =>
  some (th_2, r_8))) else (if v2_0 = (6 : Int32) then (
  bnd (f_X9_waitingOf n th_2 v1_0) (fun (r_9 : Int32) =>
  some (th_2, r_9))) else (if v2_0 = (7 : Int32) then (
  bnd (f_X9_process0 n th_2 v1_0 (3 : Int32)) (fun (r_10 : Int32) =>
  some (th_2, r_10))) else (bnd (f_X9_process0 n th_2 v1_0 (4 : Int32)) (fun (r_11 : Int32) =>
  some (th_2, r_11)))))))))))))
def f_X9_process (n : Nat) (th_0 : OS) (v1_0 : Int32) (v2_0 : Int32) : Option (OS × Int32) :=
  bnd (f_X9_isProcess n th_0 v1_0) (fun (r_1 : Int32) =>
  if r_1 = 0 then (
  j_X9_process_26 n v1_0 v2_0 th_0 (0 : Int32)) else (
  bnd (f_X9_isIn n ((v2_0).toInt64) (0 : Int64) (9 : Int64)) (fun (r_12 : Int32) =>
  if r_12 = 0 then (
  j_X9_process_26 n v1_0 v2_0 th_0 (0 : Int32)) else (
  j_X9_process_26 n v1_0 v2_0 th_0 (1 : Int32)))))
def j_X9_loan_26 (n : Nat) (v1_0 : Int32) (v2_0 : Int32) (th_j26 : OS) (s1_j26 : Int32) : Option (OS × Int32) :=
  bnd2 (f_X9_is n th_j26 s1_j26) (fun (th_2 : OS) (r_3 : Int32) =>
  if r_3 = 0 then (
  some (th_2, (0 : Int32))) else (
  if (v2_0).toInt < 0 ∨ 6 < (v2_0).toInt then (
  bnd (f_X9_loan0 n th_2 v1_0 (5 : Int32)) (fun (r_4 : Int32) =>
  some (th_2, r_4))) else (if v2_0 = (0 : Int32) then (
  bnd (f_X9_loan0 n th_2 v1_0 (0 : Int32)) (fun (r_5 : Int32) =>
  some (th_2, r_5))) else (if v2_0 = (1 : Int32) then (
  bnd (f_X9_pagesOf n th_2 v1_0) (fun (r_6 : Int32) =>
  some (th_2, r_6))) else (if v2_0 = (2 : Int32) then (
  bnd (f_X9_loan0 n th_2 v1_0 (1 : Int32)) (fun (r_7 : Int32) =>
  some (th_2, r_7))) else (if v2_0 = (3 : Int32) then (
  bnd (f_X9_loan0 n th_2 v1_0 (2 : Int32)) (fun (r_8 : Int32) =>
  some (th_2, r_8))) else (if v2_0 = (4 : Int32) then (
  bnd (f_X9_loan0 n th_2 v1_0 (3 : Int32)) (fun (r_9 : Int32) =>
  some (th_2, r_9))) else (if v2_0 = (5 : Int32) then (
  bnd (f_X9_isBrokenLoan n th_2 v1_0) (fun (r_10 : Int32) =>
  if r_10 = 0 then (
  some (th_2, (0 : Int32))) else (
  some (th_2, (1 : Int32))))) else (bnd (f_X9_loan0 n th_2 v1_0 (4 : Int32)) (fun (r_11 : Int32) =>
  some (th_2, r_11)))))))))))
def f_X9_loan (n : Nat) (th_0 : OS) (v1_0 : Int32) (v2_0 : Int32) : Option (OS × Int32) :=
  bnd (f_X9_isLoan n th_0 v1_0) (fun (r_1 : Int32) =>
  if r_1 = 0 then (
  j_X9_loan_26 n v1_0 v2_0 th_0 (0 : Int32)) else (
  bnd (f_X9_isIn n ((v2_0).toInt64) (0 : Int64) (7 : Int64)) (fun (r_12 : Int32) =>
  if r_12 = 0 then (
  j_X9_loan_26 n v1_0 v2_0 th_0 (0 : Int32)) else (
  j_X9_loan_26 n v1_0 v2_0 th_0 (1 : Int32)))))
def f_X9_page (n : Nat) (th_0 : OS) (v1_0 : Int32) : Option (OS × Int32) :=
  bnd (f_X9_isIn n ((v1_0).toInt64) (0 : Int64) ((((th_0.1 1) - (1 : Int32))).toInt64)) (fun (r_1 : Int32) =>
  bnd2 (f_X9_is n th_0 r_1) (fun (th_2 : OS) (r_3 : Int32) =>
  if r_3 = 0 then (
  some (th_2, (0 : Int32))) else (
  gI 1846 ((538 : Int32) + v1_0) (Let ((th_2.2.1 9) ((538 : Int32) + v1_0).toNatClampNeg) (fun x_4 : Int32 =>
  some (th_2, x_4))))))
def j_X9_pageOf_60 (n : Nat) (w1_j41 : Int32) (rc_41 : (OS) → (Int32) → (Int32) → Option (OS × Int32)) (th_j60 : OS) (w3_j60 : Int32) (w4_j60 : Int32) : Option (OS × Int32) :=
  gI 1846 ((538 : Int32) + w4_j60) (Let ((th_j60.2.1 9) ((538 : Int32) + w4_j60).toNatClampNeg) (fun x_9 : Int32 =>
  if x_9 = w1_j41 then (
  Let (w3_j60 - (1 : Int32)) (fun v3_11 : Int32 =>
  Let (w4_j60 + (1 : Int32)) (fun v4_12 : Int32 =>
  rc_41 th_j60 v3_11 v4_12))) else (
  Let (w4_j60 + (1 : Int32)) (fun v4_10 : Int32 =>
  rc_41 th_j60 w3_j60 v4_10))))
def s_X9_pageOf_41 (n : Nat) (w1_j41 : Int32) (rc_41 : (OS) → (Int32) → (Int32) → Option (OS × Int32)) (th_j41 : OS) (w3_j41 : Int32) (w4_j41 : Int32) : Option (OS × Int32) :=
  gI 1846 ((538 : Int32) + w4_j41) (Let ((th_j41.2.1 9) ((538 : Int32) + w4_j41).toNatClampNeg) (fun x_8 : Int32 =>
  if x_8 = w1_j41 then (
  if w3_j41 ≤ 0 then (
  some (th_j41, w4_j41)) else (
  j_X9_pageOf_60 n w1_j41 rc_41 th_j41 w3_j41 w4_j41)) else (
  j_X9_pageOf_60 n w1_j41 rc_41 th_j41 w3_j41 w4_j41)))
def l_X9_pageOf_41 (n : Nat) (w1_j41 : Int32) : Nat → (OS) → (Int32) → (Int32) → Option (OS × Int32)
  | 0 => fun _ _ _ => none
  | N + 1 => s_X9_pageOf_41 n w1_j41 (l_X9_pageOf_41 n w1_j41 N)
def f_X9_pageOf (n : Nat) (th_0 : OS) (v1_0 : Int32) (v2_0 : Int32) : Option (OS × Int32) :=
  bnd (f_X9_isLoan n th_0 v1_0) (fun (r_1 : Int32) =>
  bnd2 (f_X9_is n th_0 r_1) (fun (th_2 : OS) (r_3 : Int32) =>
  if r_3 = 0 then (
  some (th_2, (0 : Int32))) else (
  bnd (f_X9_pagesOf n th_2 v1_0) (fun (r_4 : Int32) =>
  bnd (f_X9_isIn n ((v2_0).toInt64) (0 : Int64) (((r_4 - (1 : Int32))).toInt64)) (fun (r_5 : Int32) =>
  bnd2 (f_X9_may n th_2 r_5 (2 : Int32)) (fun (th_6 : OS) (r_7 : Int32) =>
  if r_7 = 0 then (
  some (th_6, (0 : Int32))) else (
  l_X9_pageOf_41 n v1_0 n th_6 v2_0 (0 : Int32))))))))
def s_X9_pieces_18 (n : Nat) (w1_j18 : Int32) (rc_18 : (OS) → (Int32) → (Int32) → Option (OS × Int32)) (th_j18 : OS) (w2_j18 : Int32) (w3_j18 : Int32) : Option (OS × Int32) :=
  if (th_j18.1 1) ≤ w3_j18 then (
  some (th_j18, w2_j18)) else (
  gI 1846 ((538 : Int32) + w3_j18) (Let ((th_j18.2.1 9) ((538 : Int32) + w3_j18).toNatClampNeg) (fun x_4 : Int32 =>
  if x_4 = w1_j18 then (
  if w3_j18 = 0 then (
  Let (w2_j18 + (1 : Int32)) (fun v2_6 : Int32 =>
  Let (w3_j18 + (1 : Int32)) (fun v3_7 : Int32 =>
  rc_18 th_j18 v2_6 v3_7))) else (
  gI 1846 (((538 : Int32) + w3_j18) - (1 : Int32)) (Let ((th_j18.2.1 9) (((538 : Int32) + w3_j18) - (1 : Int32)).toNatClampNeg) (fun x_8 : Int32 =>
  if x_8 = w1_j18 then (
  Let (w3_j18 + (1 : Int32)) (fun v3_9 : Int32 =>
  rc_18 th_j18 w2_j18 v3_9)) else (
  Let (w2_j18 + (1 : Int32)) (fun v2_10 : Int32 =>
  Let (w3_j18 + (1 : Int32)) (fun v3_11 : Int32 =>
  rc_18 th_j18 v2_10 v3_11))))))) else (
  Let (w3_j18 + (1 : Int32)) (fun v3_5 : Int32 =>
  rc_18 th_j18 w2_j18 v3_5)))))
def l_X9_pieces_18 (n : Nat) (w1_j18 : Int32) : Nat → (OS) → (Int32) → (Int32) → Option (OS × Int32)
  | 0 => fun _ _ _ => none
  | N + 1 => s_X9_pieces_18 n w1_j18 (l_X9_pieces_18 n w1_j18 N)
def f_X9_pieces (n : Nat) (th_0 : OS) (v1_0 : Int32) : Option (OS × Int32) :=
  bnd (f_X9_isLoan n th_0 v1_0) (fun (r_1 : Int32) =>
  bnd2 (f_X9_is n th_0 r_1) (fun (th_2 : OS) (r_3 : Int32) =>
  if r_3 = 0 then (
  some (th_2, (0 : Int32))) else (
  l_X9_pieces_18 n v1_0 n th_2 (0 : Int32) (0 : Int32))))
def j_X9_longestFree_40 (n : Nat) (rc_11 : (OS) → (Int32) → (Int32) → (Int32) → Option (OS × Int32)) (th_j40 : OS) (w1_j40 : Int32) (w3_j40 : Int32) (s0_j40 : Int32) : Option (OS × Int32) :=
  bnd (f_X9_greater n w1_j40 s0_j40) (fun (r_3 : Int32) =>
  Let (w3_j40 + (1 : Int32)) (fun v3_4 : Int32 =>
  rc_11 th_j40 r_3 s0_j40 v3_4))
def s_X9_longestFree_11 (n : Nat) (rc_11 : (OS) → (Int32) → (Int32) → (Int32) → Option (OS × Int32)) (th_j11 : OS) (w1_j11 : Int32) (w2_j11 : Int32) (w3_j11 : Int32) : Option (OS × Int32) :=
  if (th_j11.1 1) ≤ w3_j11 then (
  some (th_j11, w1_j11)) else (
  gI 1846 ((538 : Int32) + w3_j11) (Let ((th_j11.2.1 9) ((538 : Int32) + w3_j11).toNatClampNeg) (fun x_2 : Int32 =>
  if x_2 = (-1 : Int32) then (
  j_X9_longestFree_40 n rc_11 th_j11 w1_j11 w3_j11 (w2_j11 + (1 : Int32))) else (
  j_X9_longestFree_40 n rc_11 th_j11 w1_j11 w3_j11 (0 : Int32)))))
def l_X9_longestFree_11 (n : Nat) : Nat → (OS) → (Int32) → (Int32) → (Int32) → Option (OS × Int32)
  | 0 => fun _ _ _ _ => none
  | N + 1 => s_X9_longestFree_11 n (l_X9_longestFree_11 n N)
def f_X9_longestFree (n : Nat) (th_0 : OS) : Option (OS × Int32) :=
  Let (sI th_0 0 (0 : Int32)) (fun th_1 : OS =>
  l_X9_longestFree_11 n n th_1 (0 : Int32) (0 : Int32) (0 : Int32))
def j_X9_claim_26 (n : Nat) (v1_0 : Int32) (v2_0 : Int32) (th_j26 : OS) (s1_j26 : Int32) : Option (OS × Int32) :=
  bnd2 (f_X9_is n th_j26 s1_j26) (fun (th_2 : OS) (r_3 : Int32) =>
  if r_3 = 0 then (
  some (th_2, (0 : Int32))) else (
  bnd (f_X9_claim0 n th_2 v1_0 v2_0) (fun (r_4 : Int32) =>
  some (th_2, r_4))))
def f_X9_claim (n : Nat) (th_0 : OS) (v1_0 : Int32) (v2_0 : Int32) : Option (OS × Int32) :=
  bnd (f_X9_isClaim n th_0 v1_0) (fun (r_1 : Int32) =>
  if r_1 = 0 then (
  j_X9_claim_26 n v1_0 v2_0 th_0 (0 : Int32)) else (
  bnd (f_X9_isIn n ((v2_0).toInt64) (0 : Int64) (6 : Int64)) (fun (r_5 : Int32) =>
  if r_5 = 0 then (
  j_X9_claim_26 n v1_0 v2_0 th_0 (0 : Int32)) else (
  j_X9_claim_26 n v1_0 v2_0 th_0 (1 : Int32)))))
def f_X9_waiting (n : Nat) (th_0 : OS) (v1_0 : Int32) : Option (OS × Int32) :=
  bnd2 (f_X9_lines n th_0) (fun (th_1 : OS) (r_2 : Int32) =>
  bnd (f_X9_isIn n ((v1_0).toInt64) (0 : Int64) (((r_2 - (1 : Int32))).toInt64)) (fun (r_3 : Int32) =>
  bnd2 (f_X9_is n th_1 r_3) (fun (th_4 : OS) (r_5 : Int32) =>
  if r_5 = 0 then (
  some (th_4, (0 : Int32))) else (
  gI 60 v1_0 (Let ((th_4.2.1 21) v1_0.toNatClampNeg) (fun x_6 : Int32 =>
  some (th_4, x_6)))))))
def f_X9_fine (n : Nat) (th_0 : OS) (v1_0 : Int32) (v2_0 : Int32) : Option (OS × Int32) :=
  bnd (f_X9_isIn n ((v2_0).toInt64) (0 : Int64) (7 : Int64)) (fun (r_1 : Int32) =>
  bnd2 (f_X9_is n th_0 r_1) (fun (th_2 : OS) (r_3 : Int32) =>
  if r_3 = 0 then (
  some (th_2, (0 : Int32))) else (
  bnd (f_X9_isKnown n th_2 v1_0) (fun (r_4 : Int32) =>
  bnd2 (f_X9_may n th_2 r_4 (2 : Int32)) (fun (th_5 : OS) (r_6 : Int32) =>
  if r_6 = 0 then (
  some (th_5, (0 : Int32))) else (
  bnd (f_X9_fine0 n th_5 v1_0 v2_0) (fun (r_7 : Int32) =>
  some (th_5, r_7))))))))
def f_X9_evidence (n : Nat) (th_0 : OS) (v1_0 : Int32) : Option (OS × Int32) :=
  bnd (f_X9_isKnown n th_0 v1_0) (fun (r_1 : Int32) =>
  bnd2 (f_X9_is n th_0 r_1) (fun (th_2 : OS) (r_3 : Int32) =>
  if r_3 = 0 then (
  some (th_2, (0 : Int32))) else (
  bnd (f_X9_evidenceFor n th_2 v1_0) (fun (r_4 : Int32) =>
  some (th_2, r_4)))))
def f_X9_wasStalled (n : Nat) (th_0 : OS) (v1_0 : Int32) (v2_0 : Int32) : Option (OS × Int32) :=
  bnd (f_X9_isProcess n th_0 v1_0) (fun (r_1 : Int32) =>
  bnd2 (f_X9_is n th_0 r_1) (fun (th_2 : OS) (r_3 : Int32) =>
  if r_3 = 0 then (
  some (th_2, (0 : Int32))) else (
  gI 1846 (0 : Int32) (Let ((th_2.2.1 9) (0 : Int32).toNatClampNeg) (fun x_4 : Int32 =>
  bnd (f_X9_isIn n ((v2_0).toInt64) (1 : Int64) ((x_4).toInt64)) (fun (r_5 : Int32) =>
  if r_5 = 0 then (
  some (th_2, (0 : Int32))) else (
  bnd (f_X9_wasStalledIn n th_2 v1_0 v2_0) (fun (r_6 : Int32) =>
  if r_6 = 0 then (
  some (th_2, (0 : Int32))) else (
  some (th_2, (1 : Int32)))))))))))
def f_X9_nextHearing (n : Nat) (th_0 : OS) : Option (OS × Int32) :=
  Let (sI th_0 0 (0 : Int32)) (fun th_1 : OS =>
  bnd (f_X9_timeOfHearing n th_1) (fun (r_2 : Int32) =>
  some (th_1, r_2)))
def j_X9_shortage_43 (n : Nat) (th_j43 : OS) (w1_j43 : Int32) : Option (OS × Int32) :=
  bnd (f_X9_free n th_j43) (fun (r_3 : Int32) =>
  bnd (f_X9_greater n (0 : Int32) (w1_j43 - r_3)) (fun (r_4 : Int32) =>
  some (th_j43, r_4)))
def s_X9_shortage_9 (n : Nat) (rc_9 : (OS) → (Int32) → (Int32) → Option (OS × Int32)) (th_j9 : OS) (w1_j9 : Int32) (w2_j9 : Int32) : Option (OS × Int32) :=
  gI 1846 (7 : Int32) (Let ((th_j9.2.1 9) (7 : Int32).toNatClampNeg) (fun x_2 : Int32 =>
  if x_2 ≤ w2_j9 then (
  j_X9_shortage_43 n th_j9 w1_j9) else (
  bnd (f_X9_doesWait n th_j9 w2_j9) (fun (r_5 : Int32) =>
  if r_5 = 0 then (
  Let (w2_j9 + (1 : Int32)) (fun v2_6 : Int32 =>
  rc_9 th_j9 w1_j9 v2_6)) else (
  bnd (f_X9_claim0 n th_j9 w2_j9 (1 : Int32)) (fun (r_7 : Int32) =>
  Let (w1_j9 + r_7) (fun v1_8 : Int32 =>
  Let (w2_j9 + (1 : Int32)) (fun v2_9 : Int32 =>
  rc_9 th_j9 v1_8 v2_9))))))))
def l_X9_shortage_9 (n : Nat) : Nat → (OS) → (Int32) → (Int32) → Option (OS × Int32)
  | 0 => fun _ _ _ => none
  | N + 1 => s_X9_shortage_9 n (l_X9_shortage_9 n N)
def f_X9_shortage (n : Nat) (th_0 : OS) : Option (OS × Int32) :=
  Let (sI th_0 0 (0 : Int32)) (fun th_1 : OS =>
  l_X9_shortage_9 n n th_1 (0 : Int32) (0 : Int32))
def f_X9_overdue (n : Nat) (th_0 : OS) : Option (OS × Int32) :=
  Let (sI th_0 0 (0 : Int32)) (fun th_1 : OS =>
  bnd (f_X9_brokenPages n th_1) (fun (r_2 : Int32) =>
  some (th_1, r_2)))
def f_X9_firstBroken (n : Nat) (th_0 : OS) : Option (OS × Int32) :=
  Let (sI th_0 0 (0 : Int32)) (fun th_1 : OS =>
  bnd (f_X9_earliestBroken n th_1) (fun (r_2 : Int32) =>
  some (th_1, r_2)))
def j_X9_worst_38 (n : Nat) (rc_9 : (OS) → (Int32) → (Int32) → Option (OS × Int32)) (th_j38 : OS) (w1_j38 : Int32) (w2_j38 : Int32) (s0_j38 : Int32) (s1_j38 : Int32) : Option (OS × Int32) :=
  if s0_j38 ≤ s1_j38 then (
  Let (w2_j38 + (1 : Int32)) (fun v2_3 : Int32 =>
  rc_9 th_j38 w1_j38 v2_3)) else (
  Let (w2_j38 + (1 : Int32)) (fun v2_4 : Int32 =>
  rc_9 th_j38 w2_j38 v2_4))
def s_X9_worst_9 (n : Nat) (rc_9 : (OS) → (Int32) → (Int32) → Option (OS × Int32)) (th_j9 : OS) (w1_j9 : Int32) (w2_j9 : Int32) : Option (OS × Int32) :=
  if (th_j9.1 2) ≤ w2_j9 then (
  some (th_j9, w1_j9)) else (
  bnd (f_X9_process0 n th_j9 w2_j9 (0 : Int32)) (fun (r_2 : Int32) =>
  if w1_j9 = (-1 : Int32) then (
  j_X9_worst_38 n rc_9 th_j9 w1_j9 w2_j9 r_2 (0 : Int32)) else (
  bnd (f_X9_process0 n th_j9 w1_j9 (0 : Int32)) (fun (r_5 : Int32) =>
  j_X9_worst_38 n rc_9 th_j9 w1_j9 w2_j9 r_2 r_5))))
def l_X9_worst_9 (n : Nat) : Nat → (OS) → (Int32) → (Int32) → Option (OS × Int32)
  | 0 => fun _ _ _ => none
  | N + 1 => s_X9_worst_9 n (l_X9_worst_9 n N)
def f_X9_worst (n : Nat) (th_0 : OS) : Option (OS × Int32) :=
  Let (sI th_0 0 (0 : Int32)) (fun th_1 : OS =>
  l_X9_worst_9 n n th_1 (-1 : Int32) (0 : Int32))
def j_X9_becomesIn_61 (n : Nat) (th_j61 : OS) (w4_j61 : Int32) (s0_j61 : Int32) : Option (OS × Int32) :=
  if s0_j61 = 0 then (
  bnd2 (f_X9_laysBack n th_j61 (-1 : Int32)) (fun (th_3 : OS) (r_4 : Int32) =>
  some (th_3, r_4))) else (
  bnd2 (f_X9_laysBack n th_j61 w4_j61) (fun (th_5 : OS) (r_6 : Int32) =>
  some (th_5, r_6)))
def j_X9_becomesIn_46 (n : Nat) (w1_j7 : Int32) (w3_j7 : Int32) (th_j46 : OS) (w4_j46 : Int32) : Option (OS × Int32) :=
  bnd (f_X9_claim0 n th_j46 w1_j7 (3 : Int32)) (fun (r_2 : Int32) =>
  if r_2 = w3_j7 then (
  j_X9_becomesIn_61 n th_j46 w4_j46 (1 : Int32)) else (
  j_X9_becomesIn_61 n th_j46 w4_j46 (0 : Int32)))
def s_X9_becomesIn_7 (n : Nat) (w1_j7 : Int32) (w2_j7 : Int32) (w3_j7 : Int32) (rc_7 : (OS) → (Int32) → Option (OS × Int32)) (th_j7 : OS) (w4_j7 : Int32) : Option (OS × Int32) :=
  if w2_j7 ≤ w4_j7 then (
  j_X9_becomesIn_46 n w1_j7 w3_j7 th_j7 w4_j7) else (
  gI 1846 (0 : Int32) (Let ((th_j7.2.1 9) (0 : Int32).toNatClampNeg) (fun x_7 : Int32 =>
  if (2000 : Int32) ≤ x_7 then (
  j_X9_becomesIn_46 n w1_j7 w3_j7 th_j7 w4_j7) else (
  bnd (f_X9_doesWait n th_j7 w1_j7) (fun (r_8 : Int32) =>
  if r_8 = 0 then (
  j_X9_becomesIn_46 n w1_j7 w3_j7 th_j7 w4_j7) else (
  bnd (f_X9_ticks n th_j7) (fun (th_9 : OS) =>
  Let (w4_j7 + (1 : Int32)) (fun v4_10 : Int32 =>
  rc_7 th_9 v4_10))))))))
def l_X9_becomesIn_7 (n : Nat) (w1_j7 : Int32) (w2_j7 : Int32) (w3_j7 : Int32) : Nat → (OS) → (Int32) → Option (OS × Int32)
  | 0 => fun _ _ => none
  | N + 1 => s_X9_becomesIn_7 n w1_j7 w2_j7 w3_j7 (l_X9_becomesIn_7 n w1_j7 w2_j7 w3_j7 N)
def f_X9_becomesIn (n : Nat) (th_0 : OS) (v1_0 : Int32) (v2_0 : Int32) (v3_0 : Int32) : Option (OS × Int32) :=
  bnd (f_X9_tries n th_0) (fun (th_1 : OS) =>
  l_X9_becomesIn_7 n v1_0 v2_0 v3_0 n th_1 (0 : Int32))
def f_X9_metIn (n : Nat) (th_0 : OS) (v1_0 : Int32) (v2_0 : Int32) : Option (OS × Int32) :=
  bnd (f_X9_isClaim n th_0 v1_0) (fun (r_1 : Int32) =>
  bnd2 (f_X9_is n th_0 r_1) (fun (th_2 : OS) (r_3 : Int32) =>
  if r_3 = 0 then (
  some (th_2, (0 : Int32))) else (
  bnd (f_X9_areTicks n v2_0) (fun (r_4 : Int32) =>
  bnd2 (f_X9_may n th_2 r_4 (2 : Int32)) (fun (th_5 : OS) (r_6 : Int32) =>
  if r_6 = 0 then (
  some (th_5, (0 : Int32))) else (
  bnd (f_X9_doesWait n th_5 v1_0) (fun (r_7 : Int32) =>
  if r_7 = 0 then (
  some (th_5, (-1 : Int32))) else (
  bnd2 (f_X9_becomesIn n th_5 v1_0 v2_0 (1 : Int32)) (fun (th_8 : OS) (r_9 : Int32) =>
  some (th_8, r_9))))))))))
def f_X9_refusedIn (n : Nat) (th_0 : OS) (v1_0 : Int32) (v2_0 : Int32) : Option (OS × Int32) :=
  bnd (f_X9_isClaim n th_0 v1_0) (fun (r_1 : Int32) =>
  bnd2 (f_X9_is n th_0 r_1) (fun (th_2 : OS) (r_3 : Int32) =>
  if r_3 = 0 then (
  some (th_2, (0 : Int32))) else (
  bnd (f_X9_areTicks n v2_0) (fun (r_4 : Int32) =>
  bnd2 (f_X9_may n th_2 r_4 (2 : Int32)) (fun (th_5 : OS) (r_6 : Int32) =>
  if r_6 = 0 then (
  some (th_5, (0 : Int32))) else (
  bnd (f_X9_doesWait n th_5 v1_0) (fun (r_7 : Int32) =>
  if r_7 = 0 then (
  some (th_5, (-1 : Int32))) else (
  bnd2 (f_X9_becomesIn n th_5 v1_0 v2_0 (2 : Int32)) (fun (th_8 : OS) (r_9 : Int32) =>
  some (th_8, r_9))))))))))
def f_X9_wouldPay (n : Nat) (th_0 : OS) (v1_0 : Int32) : Option (OS × Int32) :=
  bnd (f_X9_isProcess n th_0 v1_0) (fun (r_1 : Int32) =>
  bnd2 (f_X9_is n th_0 r_1) (fun (th_2 : OS) (r_3 : Int32) =>
  if r_3 = 0 then (
  some (th_2, (0 : Int32))) else (
  bnd (f_X9_timeOfHearing n th_2) (fun (r_4 : Int32) =>
  if r_4 = (-1 : Int32) then (
  some (th_2, (0 : Int32))) else (
  bnd (f_X9_tries n th_2) (fun (th_5 : OS) =>
  Let (sI th_5 19 v1_0) (fun th_6 : OS =>
  Let (sI th_6 20 (0 : Int32)) (fun th_7 : OS =>
  gI 1846 (0 : Int32) (Let ((th_7.2.1 9) (0 : Int32).toNatClampNeg) (fun x_8 : Int32 =>
  bnd2 (f_X9_goesOn n th_7 (r_4 - x_8)) (fun (th_9 : OS) (r_10 : Int32) =>
  Let (sI th_9 19 (-1 : Int32)) (fun th_11 : OS =>
  bnd2 (f_X9_laysBack n th_11 (th_11.1 20)) (fun (th_12 : OS) (r_13 : Int32) =>
  some (th_12, r_13))))))))))))))
def f_X9_freeIn (n : Nat) (th_0 : OS) (v1_0 : Int32) : Option (OS × Int32) :=
  bnd (f_X9_areTicks n v1_0) (fun (r_1 : Int32) =>
  bnd2 (f_X9_is n th_0 r_1) (fun (th_2 : OS) (r_3 : Int32) =>
  if r_3 = 0 then (
  some (th_2, (0 : Int32))) else (
  bnd (f_X9_tries n th_2) (fun (th_4 : OS) =>
  bnd2 (f_X9_goesOn n th_4 v1_0) (fun (th_5 : OS) (r_6 : Int32) =>
  bnd (f_X9_free n th_5) (fun (r_7 : Int32) =>
  bnd2 (f_X9_laysBack n th_5 r_7) (fun (th_8 : OS) (r_9 : Int32) =>
  some (th_8, r_9))))))))
def f_X9_wouldFine (n : Nat) (th_0 : OS) (v1_0 : Int32) : Option (OS × Int32) :=
  bnd (f_X9_isLoan n th_0 v1_0) (fun (r_1 : Int32) =>
  bnd2 (f_X9_is n th_0 r_1) (fun (th_2 : OS) (r_3 : Int32) =>
  if r_3 = 0 then (
  some (th_2, (0 : Int32))) else (
  bnd (f_X9_timeOfHearing n th_2) (fun (r_4 : Int32) =>
  if r_4 = (-1 : Int32) then (
  some (th_2, (0 : Int32))) else (
  bnd (f_X9_tries n th_2) (fun (th_5 : OS) =>
  Let (sI th_5 17 v1_0) (fun th_6 : OS =>
  Let (sI th_6 18 (0 : Int32)) (fun th_7 : OS =>
  gI 1846 (0 : Int32) (Let ((th_7.2.1 9) (0 : Int32).toNatClampNeg) (fun x_8 : Int32 =>
  bnd2 (f_X9_goesOn n th_7 (r_4 - x_8)) (fun (th_9 : OS) (r_10 : Int32) =>
  Let (sI th_9 17 (-1 : Int32)) (fun th_11 : OS =>
  bnd2 (f_X9_laysBack n th_11 (th_11.1 18)) (fun (th_12 : OS) (r_13 : Int32) =>
  some (th_12, r_13))))))))))))))
def j_X9_processIn_76 (n : Nat) (th_j76 : OS) (s0_j76 : Int32) : Option (OS × Int32) :=
  bnd2 (f_X9_laysBack n th_j76 s0_j76) (fun (th_10 : OS) (r_11 : Int32) =>
  some (th_10, r_11))
def j_X9_processIn_37 (n : Nat) (v1_0 : Int32) (v2_0 : Int32) (v3_0 : Int32) (th_j37 : OS) (s1_j37 : Int32) : Option (OS × Int32) :=
  bnd2 (f_X9_may n th_j37 s1_j37 (2 : Int32)) (fun (th_5 : OS) (r_6 : Int32) =>
  if r_6 = 0 then (
  some (th_5, (0 : Int32))) else (
  bnd (f_X9_tries n th_5) (fun (th_7 : OS) =>
  bnd2 (f_X9_goesOn n th_7 v2_0) (fun (th_8 : OS) (r_9 : Int32) =>
  if v3_0 = (2 : Int32) then (
  bnd (f_X9_pagesOfAll n th_8 v1_0) (fun (r_13 : Int32) =>
  j_X9_processIn_76 n th_8 r_13)) else (
  bnd (f_X9_process0 n th_8 v1_0 v3_0) (fun (r_12 : Int32) =>
  j_X9_processIn_76 n th_8 r_12))))))
def f_X9_processIn (n : Nat) (th_0 : OS) (v1_0 : Int32) (v2_0 : Int32) (v3_0 : Int32) : Option (OS × Int32) :=
  bnd (f_X9_isProcess n th_0 v1_0) (fun (r_1 : Int32) =>
  bnd2 (f_X9_is n th_0 r_1) (fun (th_2 : OS) (r_3 : Int32) =>
  if r_3 = 0 then (
  some (th_2, (0 : Int32))) else (
  bnd (f_X9_areTicks n v2_0) (fun (r_4 : Int32) =>
  if r_4 = 0 then (
  j_X9_processIn_37 n v1_0 v2_0 v3_0 th_2 (0 : Int32)) else (
  bnd (f_X9_isIn n ((v3_0).toInt64) (0 : Int64) (2 : Int64)) (fun (r_14 : Int32) =>
  if r_14 = 0 then (
  j_X9_processIn_37 n v1_0 v2_0 v3_0 th_2 (0 : Int32)) else (
  j_X9_processIn_37 n v1_0 v2_0 v3_0 th_2 (1 : Int32))))))))
def s_X9_bestOrder_20 (n : Nat) (w1_j20 : Int32) (rc_20 : (OS) → (Int32) → (Int32) → (Int32) → Option (OS × Int32)) (th_j20 : OS) (w2_j20 : Int32) (w3_j20 : Int32) (w4_j20 : Int32) : Option (OS × Int32) :=
  if (2 : Int32) < w4_j20 then (
  some (th_j20, w2_j20)) else (
  bnd (f_X9_tries n th_j20) (fun (th_4 : OS) =>
  gI 1846 (1 : Int32) (Let (sA th_4 9 (upd (th_4.2.1 9) (1 : Int32).toNatClampNeg w4_j20)) (fun th_5 : OS =>
  bnd2 (f_X9_goesOn n th_5 w1_j20) (fun (th_6 : OS) (r_7 : Int32) =>
  bnd2 (f_X9_laysBack n th_6 r_7) (fun (th_8 : OS) (r_9 : Int32) =>
  if w3_j20 < r_9 then (
  Let (w4_j20 + (1 : Int32)) (fun v4_10 : Int32 =>
  rc_20 th_8 w4_j20 r_9 v4_10)) else (
  Let (w4_j20 + (1 : Int32)) (fun v4_11 : Int32 =>
  rc_20 th_8 w2_j20 w3_j20 v4_11))))))))
def l_X9_bestOrder_20 (n : Nat) (w1_j20 : Int32) : Nat → (OS) → (Int32) → (Int32) → (Int32) → Option (OS × Int32)
  | 0 => fun _ _ _ _ => none
  | N + 1 => s_X9_bestOrder_20 n w1_j20 (l_X9_bestOrder_20 n w1_j20 N)
def f_X9_bestOrder (n : Nat) (th_0 : OS) (v1_0 : Int32) : Option (OS × Int32) :=
  bnd (f_X9_areTicks n v1_0) (fun (r_1 : Int32) =>
  bnd2 (f_X9_is n th_0 r_1) (fun (th_2 : OS) (r_3 : Int32) =>
  if r_3 = 0 then (
  some (th_2, (0 : Int32))) else (
  l_X9_bestOrder_20 n v1_0 n th_2 (0 : Int32) (-1 : Int32) (0 : Int32))))
def j_X9_doesHelp_42 (n : Nat) (th_j42 : OS) (s0_j42 : Int32) : Option (OS × Int32) :=
  bnd (f_X9_copies n 1846 (th_j42.2.1 12) 1846 (th_j42.2.1 9)) (fun (y_8 : Nat → Int32) =>
  Let (sA th_j42 9 y_8) (fun th_9 : OS =>
  gZ s0_j42 (some (th_9, s0_j42))))
def f_X9_doesHelp (n : Nat) (th_0 : OS) (v1_0 : Int32) (v2_0 : Int32) (v3_0 : Int32) : Option (OS × Int32) :=
  bnd (f_X9_tries n th_0) (fun (th_1 : OS) =>
  bnd (f_X9_frees n th_1 v1_0 v2_0) (fun (th_2 : OS) =>
  bnd (f_X9_timeOfHearing n th_2) (fun (r_3 : Int32) =>
  gI 1846 (0 : Int32) (Let ((th_2.2.1 9) (0 : Int32).toNatClampNeg) (fun x_4 : Int32 =>
  bnd2 (f_X9_goesOn n th_2 (r_3 - x_4)) (fun (th_5 : OS) (r_6 : Int32) =>
  bnd (f_X9_claim0 n th_5 v3_0 (3 : Int32)) (fun (r_7 : Int32) =>
  if r_7 = (1 : Int32) then (
  j_X9_doesHelp_42 n th_5 (1 : Int32)) else (
  j_X9_doesHelp_42 n th_5 (0 : Int32)))))))))
def s_X9_helps_57 (n : Nat) (w1_j57 : Int32) (w2_j57 : Int32) (w3_j57 : Int32) (rc_57 : (OS) → (Int32) → Option (OS × Int32)) (th_j57 : OS) (w4_j57 : Int32) : Option (OS × Int32) :=
  if w3_j57 < w4_j57 then (
  some (th_j57, (-1 : Int32))) else (
  bnd2 (f_X9_doesHelp n th_j57 w1_j57 w4_j57 w2_j57) (fun (th_7 : OS) (r_8 : Int32) =>
  if r_8 = 0 then (
  Let (w4_j57 + (1 : Int32)) (fun v4_9 : Int32 =>
  rc_57 th_7 v4_9)) else (
  some (th_7, w4_j57))))
def l_X9_helps_57 (n : Nat) (w1_j57 : Int32) (w2_j57 : Int32) (w3_j57 : Int32) : Nat → (OS) → (Int32) → Option (OS × Int32)
  | 0 => fun _ _ => none
  | N + 1 => s_X9_helps_57 n w1_j57 w2_j57 w3_j57 (l_X9_helps_57 n w1_j57 w2_j57 w3_j57 N)
def j_X9_helps_22 (n : Nat) (v1_0 : Int32) (v2_0 : Int32) (th_j22 : OS) (s1_j22 : Int32) : Option (OS × Int32) :=
  bnd2 (f_X9_is n th_j22 s1_j22) (fun (th_2 : OS) (r_3 : Int32) =>
  if r_3 = 0 then (
  some (th_2, (0 : Int32))) else (
  bnd (f_X9_doesWait n th_2 v2_0) (fun (r_4 : Int32) =>
  if r_4 = 0 then (
  some (th_2, (-1 : Int32))) else (
  bnd (f_X9_timeOfHearing n th_2) (fun (r_5 : Int32) =>
  if r_5 = (-1 : Int32) then (
  some (th_2, (-1 : Int32))) else (
  bnd (f_X9_pagesOf n th_2 v1_0) (fun (r_6 : Int32) =>
  l_X9_helps_57 n v1_0 v2_0 r_6 n th_2 (0 : Int32))))))))
def f_X9_helps (n : Nat) (th_0 : OS) (v1_0 : Int32) (v2_0 : Int32) : Option (OS × Int32) :=
  bnd (f_X9_isLoan n th_0 v1_0) (fun (r_1 : Int32) =>
  if r_1 = 0 then (
  j_X9_helps_22 n v1_0 v2_0 th_0 (0 : Int32)) else (
  bnd (f_X9_isClaim n th_0 v2_0) (fun (r_10 : Int32) =>
  if r_10 = 0 then (
  j_X9_helps_22 n v1_0 v2_0 th_0 (0 : Int32)) else (
  j_X9_helps_22 n v1_0 v2_0 th_0 (1 : Int32)))))
def f_X9_wouldAppeal (n : Nat) (th_0 : OS) (v1_0 : Int32) : Option (OS × Int32) :=
  bnd (f_X9_isKnown n th_0 v1_0) (fun (r_1 : Int32) =>
  bnd2 (f_X9_is n th_0 r_1) (fun (th_2 : OS) (r_3 : Int32) =>
  if r_3 = 0 then (
  some (th_2, (0 : Int32))) else (
  bnd (f_X9_canAppeal n th_2 v1_0) (fun (r_4 : Int32) =>
  if r_4 = 0 then (
  some (th_2, (-1 : Int32))) else (
  bnd (f_X9_lessBy n th_2 v1_0) (fun (r_5 : Int32) =>
  some (th_2, r_5)))))))
def s_X9_clears_60 (n : Nat) (rc_60 : (OS) → (Int32) → Option (OS)) (th_j60 : OS) (w1_j60 : Int32) : Option (OS) :=
  if (1846 : Int32) ≤ w1_j60 then (
  some th_j60) else (
  bnd (f_X9_isIn n ((w1_j60).toInt64) (538 : Int64) (601 : Int64)) (fun (r_10 : Int32) =>
  if r_10 = 0 then (
  gI 1846 w1_j60 (Let (sA th_j60 10 (upd (th_j60.2.1 10) w1_j60.toNatClampNeg (0 : Int32))) (fun th_11 : OS =>
  Let (w1_j60 + (1 : Int32)) (fun v1_12 : Int32 =>
  rc_60 th_11 v1_12)))) else (
  gI 1846 w1_j60 (Let (sA th_j60 10 (upd (th_j60.2.1 10) w1_j60.toNatClampNeg (-1 : Int32))) (fun th_13 : OS =>
  Let (w1_j60 + (1 : Int32)) (fun v1_14 : Int32 =>
  rc_60 th_13 v1_14))))))
def l_X9_clears_60 (n : Nat) : Nat → (OS) → (Int32) → Option (OS)
  | 0 => fun _ _ => none
  | N + 1 => s_X9_clears_60 n (l_X9_clears_60 n N)
def f_X9_clears (n : Nat) (th_0 : OS) : Option (OS) :=
  Let (sI th_0 33 (0 : Int32)) (fun th_1 : OS =>
  Let (sI th_1 34 (0 : Int32)) (fun th_2 : OS =>
  Let (sI th_2 35 (0 : Int32)) (fun th_3 : OS =>
  Let (sI th_3 36 (0 : Int32)) (fun th_4 : OS =>
  gI 5 (0 : Int32) (Let (sA th_4 37 (upd (th_4.2.1 37) (0 : Int32).toNatClampNeg (5 : Int32))) (fun th_5 : OS =>
  gI 5 (1 : Int32) (Let (sA th_5 37 (upd (th_5.2.1 37) (1 : Int32).toNatClampNeg (10 : Int32))) (fun th_6 : OS =>
  gI 5 (2 : Int32) (Let (sA th_6 37 (upd (th_6.2.1 37) (2 : Int32).toNatClampNeg (20 : Int32))) (fun th_7 : OS =>
  gI 5 (3 : Int32) (Let (sA th_7 37 (upd (th_7.2.1 37) (3 : Int32).toNatClampNeg (3 : Int32))) (fun th_8 : OS =>
  gI 5 (4 : Int32) (Let (sA th_8 37 (upd (th_8.2.1 37) (4 : Int32).toNatClampNeg (10 : Int32))) (fun th_9 : OS =>
  l_X9_clears_60 n n th_9 (0 : Int32)))))))))))))))
def j_X9_takesDraft_94 (n : Nat) (th_j94 : OS) : Option (OS) :=
  bnd (f_X9_copies n 1846 (th_j94.2.1 10) 1846 (th_j94.2.1 9)) (fun (y_13 : Nat → Int32) =>
  Let (sA th_j94 9 y_13) (fun th_14 : OS =>
  Let (sI th_14 15 (0 : Int32)) (fun th_15 : OS =>
  Let (sI th_15 16 (0 : Int32)) (fun th_16 : OS =>
  some th_16))))
def s_X9_takesDraft_68 (n : Nat) (rc_68 : (OS) → (Int32) → Option (OS)) (th_j68 : OS) (w1_j68 : Int32) : Option (OS) :=
  if (th_j68.1 2) ≤ w1_j68 then (
  j_X9_takesDraft_94 n th_j68) else (
  gI 8 w1_j68 (Let ((th_j68.2.2.1 38) w1_j68.toNatClampNeg) (fun x_17 : Int64 =>
  gI 8 w1_j68 (Let (sL th_j68 8 (vp_updL (th_j68.2.2.1 8) w1_j68.toNatClampNeg x_17)) (fun th_18 : OS =>
  Let (w1_j68 + (1 : Int32)) (fun v1_19 : Int32 =>
  rc_68 th_18 v1_19))))))
def l_X9_takesDraft_68 (n : Nat) : Nat → (OS) → (Int32) → Option (OS)
  | 0 => fun _ _ => none
  | N + 1 => s_X9_takesDraft_68 n (l_X9_takesDraft_68 n N)
def f_X9_takesDraft (n : Nat) (th_0 : OS) : Option (OS) :=
  Let (sI th_0 1 (th_0.1 33)) (fun th_1 : OS =>
  Let (sI th_1 2 (th_1.1 34)) (fun th_2 : OS =>
  gI 5 (0 : Int32) (Let ((th_2.2.1 37) (0 : Int32).toNatClampNeg) (fun x_3 : Int32 =>
  Let (sI th_2 3 x_3) (fun th_4 : OS =>
  gI 5 (1 : Int32) (Let ((th_4.2.1 37) (1 : Int32).toNatClampNeg) (fun x_5 : Int32 =>
  Let (sI th_4 4 x_5) (fun th_6 : OS =>
  gI 5 (2 : Int32) (Let ((th_6.2.1 37) (2 : Int32).toNatClampNeg) (fun x_7 : Int32 =>
  Let (sI th_6 5 x_7) (fun th_8 : OS =>
  gI 5 (3 : Int32) (Let ((th_8.2.1 37) (3 : Int32).toNatClampNeg) (fun x_9 : Int32 =>
  Let (sI th_8 6 x_9) (fun th_10 : OS =>
  gI 5 (4 : Int32) (Let ((th_10.2.1 37) (4 : Int32).toNatClampNeg) (fun x_11 : Int32 =>
  Let (sI th_10 7 x_11) (fun th_12 : OS =>
  l_X9_takesDraft_68 n n th_12 (0 : Int32))))))))))))))))))
def j_X9_feed_76 (n : Nat) (w1_j23 : Int32) (w2_j23 : Int32) (w3_j23 : Int32) (w4_j23 : Int32) (w5_j23 : Int32) (rc_23 : (OS) → (Int32) → Option (OS × Int32)) (th_j76 : OS) (w6_j76 : Int32) (s0_j76 : Int32) : Option (OS × Int32) :=
  gI 600 (th_j76.1 23) (Let (sA th_j76 22 (upd (th_j76.2.1 22) (th_j76.1 23).toNatClampNeg (vp_nar .byte (((s0_j76 >>> (((24 : Int32) - ((8 : Int32) * (rm32 w6_j76 (4 : Int32)))) &&& 31))).toInt8.toInt32)))) (fun th_2 : OS =>
  Let (sI th_2 23 ((th_2.1 23) + (1 : Int32))) (fun th_3 : OS =>
  Let (w6_j76 + (1 : Int32)) (fun v6_4 : Int32 =>
  rc_23 th_3 v6_4))))
def s_X9_feed_23 (n : Nat) (w1_j23 : Int32) (w2_j23 : Int32) (w3_j23 : Int32) (w4_j23 : Int32) (w5_j23 : Int32) (rc_23 : (OS) → (Int32) → Option (OS × Int32)) (th_j23 : OS) (w6_j23 : Int32) : Option (OS × Int32) :=
  if (20 : Int32) ≤ w6_j23 then (
  some (th_j23, (th_j23.1 23))) else (
  if (4 : Int32) ≤ w6_j23 then (
  if (8 : Int32) ≤ w6_j23 then (
  if (12 : Int32) ≤ w6_j23 then (
  if (16 : Int32) ≤ w6_j23 then (
  j_X9_feed_76 n w1_j23 w2_j23 w3_j23 w4_j23 w5_j23 rc_23 th_j23 w6_j23 w5_j23) else (
  j_X9_feed_76 n w1_j23 w2_j23 w3_j23 w4_j23 w5_j23 rc_23 th_j23 w6_j23 w4_j23)) else (
  j_X9_feed_76 n w1_j23 w2_j23 w3_j23 w4_j23 w5_j23 rc_23 th_j23 w6_j23 w3_j23)) else (
  j_X9_feed_76 n w1_j23 w2_j23 w3_j23 w4_j23 w5_j23 rc_23 th_j23 w6_j23 w2_j23)) else (
  j_X9_feed_76 n w1_j23 w2_j23 w3_j23 w4_j23 w5_j23 rc_23 th_j23 w6_j23 w1_j23))
def l_X9_feed_23 (n : Nat) (w1_j23 : Int32) (w2_j23 : Int32) (w3_j23 : Int32) (w4_j23 : Int32) (w5_j23 : Int32) : Nat → (OS) → (Int32) → Option (OS × Int32)
  | 0 => fun _ _ => none
  | N + 1 => s_X9_feed_23 n w1_j23 w2_j23 w3_j23 w4_j23 w5_j23 (l_X9_feed_23 n w1_j23 w2_j23 w3_j23 w4_j23 w5_j23 N)
def f_X9_feed (n : Nat) (th_0 : OS) (v1_0 : Int32) (v2_0 : Int32) (v3_0 : Int32) (v4_0 : Int32) (v5_0 : Int32) : Option (OS × Int32) :=
  Let (sI th_0 0 (0 : Int32)) (fun th_1 : OS =>
  if ((th_1.1 23) + (20 : Int32)) ≤ (600 : Int32) then (
  l_X9_feed_23 n v1_0 v2_0 v3_0 v4_0 v5_0 n th_1 (0 : Int32)) else (
  some (th_1, (-1 : Int32))))
def f_X9_truncate (n : Nat) (th_0 : OS) (v1_0 : Int32) : Option (OS × Int32) :=
  Let (sI th_0 0 (0 : Int32)) (fun th_1 : OS =>
  bnd (f_X9_isIn n ((v1_0).toInt64) (0 : Int64) (((th_1.1 23)).toInt64)) (fun (r_2 : Int32) =>
  if r_2 = 0 then (
  some (th_1, (0 : Int32))) else (
  Let (sI th_1 23 v1_0) (fun th_3 : OS =>
  some (th_3, (1 : Int32))))))
def f_X9_here (n : Nat) (th_0 : OS) (v1_0 : Int32) : Option (Int32) :=
  if (th_0.1 24) ≤ v1_0 then (
  some (-1 : Int32)) else (
  gI 600 v1_0 (Let ((th_0.2.1 22) v1_0.toNatClampNeg) (fun x_1 : Int32 =>
  some (x_1 &&& (255 : Int32)))))
def f_X9_isLetter (n : Nat) (th_0 : OS) (v1_0 : Int32) : Option (Int32) :=
  bnd (f_X9_here n th_0 v1_0) (fun (r_1 : Int32) =>
  bnd (f_X9_isIn n ((r_1).toInt64) (97 : Int64) (122 : Int64)) (fun (r_2 : Int32) =>
  gZ r_2 (some r_2)))
def f_X9_errorCode (n : Nat) (th_0 : OS) : Option (OS × Int32) :=
  Let (sI th_0 0 (0 : Int32)) (fun th_1 : OS =>
  some (th_1, (th_1.1 31)))
def f_X9_errorOffset (n : Nat) (th_0 : OS) : Option (OS × Int32) :=
  Let (sI th_0 0 (0 : Int32)) (fun th_1 : OS =>
  some (th_1, (th_1.1 32)))
def f_X9_outputByte (n : Nat) (th_0 : OS) (v1_0 : Int32) : Option (OS × Int32) :=
  Let (sI th_0 0 (0 : Int32)) (fun th_1 : OS =>
  bnd (f_X9_isIn n ((v1_0).toInt64) (0 : Int64) ((((th_1.1 40)).toInt64) - (1 : Int64))) (fun (r_2 : Int32) =>
  if r_2 = 0 then (
  some (th_1, (-1 : Int32))) else (
  gI 1000 v1_0 (Let ((th_1.2.1 39) v1_0.toNatClampNeg) (fun x_3 : Int32 =>
  some (th_1, x_3))))))
def s_X9_indexOf_3 (n : Nat) (z_p0 : Nat) (p0_0 : Nat → Int64) (w1_j3 : Int32) (w2_j3 : Int64) (rc_3 : (Int32) → Option (Int32)) (w4_j3 : Int32) : Option (Int32) :=
  if w1_j3 ≤ w4_j3 then (
  some (-1 : Int32)) else (
  gI z_p0 w4_j3 (Let (p0_0 w4_j3.toNatClampNeg) (fun x_1 : Int64 =>
  if (lg_cmp x_1 w2_j3) = 0 then (
  some w4_j3) else (
  Let (w4_j3 + (1 : Int32)) (fun v4_2 : Int32 =>
  rc_3 v4_2)))))
def l_X9_indexOf_3 (n : Nat) (z_p0 : Nat) (p0_0 : Nat → Int64) (w1_j3 : Int32) (w2_j3 : Int64) : Nat → (Int32) → Option (Int32)
  | 0 => fun _ => none
  | N + 1 => s_X9_indexOf_3 n z_p0 p0_0 w1_j3 w2_j3 (l_X9_indexOf_3 n z_p0 p0_0 w1_j3 w2_j3 N)
def f_X9_indexOf (n : Nat) (z_p0 : Nat) (p0_0 : Nat → Int64) (v1_0 : Int32) (v2_0 : Int64) : Option (Int32) :=
  l_X9_indexOf_3 n z_p0 p0_0 v1_0 v2_0 n (0 : Int32)
def s_X9_find_34 (n : Nat) (w1_j34 : Int32) (rc_34 : (OS) → (Int64) → (Int32) → Option (OS × Int32)) (th_j34 : OS) (w2_j34 : Int64) (w4_j34 : Int32) : Option (OS × Int32) :=
  if w1_j34 ≤ w4_j34 then (
  bnd (f_X9_indexOf n 8 (th_j34.2.2.1 8) (th_j34.1 2) w2_j34) (fun (r_5 : Int32) =>
  some (th_j34, r_5))) else (
  gI 600 w4_j34 (Let ((th_j34.2.1 22) w4_j34.toNatClampNeg) (fun x_6 : Int32 =>
  bnd (f_X9_isIn n ((x_6).toInt64) (97 : Int64) (122 : Int64)) (fun (r_7 : Int32) =>
  if r_7 = 0 then (
  some (th_j34, (-1 : Int32))) else (
  gI 600 w4_j34 (Let ((th_j34.2.1 22) w4_j34.toNatClampNeg) (fun x_8 : Int32 =>
  Let ((((32 : Int64) * w2_j34) + ((x_8).toInt64)) - (96 : Int64)) (fun v2_9 : Int64 =>
  Let (w4_j34 + (1 : Int32)) (fun v4_10 : Int32 =>
  rc_34 th_j34 v2_9 v4_10)))))))))
def l_X9_find_34 (n : Nat) (w1_j34 : Int32) : Nat → (OS) → (Int64) → (Int32) → Option (OS × Int32)
  | 0 => fun _ _ _ => none
  | N + 1 => s_X9_find_34 n w1_j34 (l_X9_find_34 n w1_j34 N)
def f_X9_find (n : Nat) (th_0 : OS) : Option (OS × Int32) :=
  Let (sI th_0 0 (0 : Int32)) (fun th_1 : OS =>
  Let (th_1.1 23) (fun v1_2 : Int32 =>
  Let (sI th_1 23 (0 : Int32)) (fun th_3 : OS =>
  bnd (f_X9_isIn n ((v1_2).toInt64) (1 : Int64) (6 : Int64)) (fun (r_4 : Int32) =>
  if r_4 = 0 then (
  some (th_3, (-1 : Int32))) else (
  l_X9_find_34 n v1_2 n th_3 (0 : Int64) (0 : Int32))))))
def f_X9_fine_ (n : Nat) (th_0 : OS) : Option (Int32) :=
  if (th_0.1 31) = 0 then (
  some (1 : Int32)) else (
  some (0 : Int32))
def f_X9_needs (n : Nat) (th_0 : OS) (v1_0 : Int32) (v2_0 : Int32) : Option (OS) :=
  if (th_0.1 31) = 0 then (
  if v1_0 = 0 then (
  Let (sI th_0 31 v2_0) (fun th_1 : OS =>
  Let (sI th_1 32 (th_1.1 26)) (fun th_2 : OS =>
  some th_2))) else (
  some th_0)) else (
  some th_0)
def f_X9_isName (n : Nat) (th_0 : OS) : Option (Int32) :=
  if (th_0.1 27) = (1 : Int32) then (
  if (th_0.1 28) = (-1 : Int32) then (
  if (6 : Int32) < ((th_0.1 25) - (th_0.1 26)) then (
  some (0 : Int32)) else (
  some (1 : Int32))) else (
  some (0 : Int32))) else (
  some (0 : Int32))
def f_X9_isWord (n : Nat) (th_0 : OS) (v1_0 : Int32) : Option (Int32) :=
  bnd (f_X9_fine_ n th_0) (fun (r_1 : Int32) =>
  if r_1 = 0 then (
  some (0 : Int32)) else (
  if (th_0.1 27) = (1 : Int32) then (
  if (th_0.1 28) = v1_0 then (
  some (1 : Int32)) else (
  some (0 : Int32))) else (
  some (0 : Int32))))
def f_X9_says (n : Nat) (th_0 : OS) (v1_0 : Int32) : Option (OS) :=
  gI 1000 (th_0.1 40) (Let (sA th_0 39 (upd (th_0.2.1 39) (th_0.1 40).toNatClampNeg (vp_nar .byte ((v1_0).toInt8.toInt32)))) (fun th_1 : OS =>
  Let (sI th_1 40 ((th_1.1 40) + (1 : Int32))) (fun th_2 : OS =>
  some th_2)))
def f_X8_needFine (n : Nat) (sv_th : Value) (th_0 : OS) (no_0 : OS) (v1_0 : Int32) : Option (Nat) :=
  bnd (f_X2_isKnown n no_0 v1_0) (fun (r_1 : Int32) =>
  if r_1 = 0 then (
  some 4) else (
  some 0))
def f_X8_errorCode (n : Nat) (sv_th : Value) (th_0 : OS) (rd_0 : OS) : Option (Int32) :=
  some (rd_0.1 3)
def f_X8_errorOffset (n : Nat) (sv_th : Value) (th_0 : OS) (rd_0 : OS) : Option (Int32) :=
  some (rd_0.1 4)
def f_X8_find (n : Nat) (sv_th : Value) (th_0 : OS) (z_in : Nat) (in_0 : OS) (ru_0 : OS) : Option (OS × Int32) :=
  bnd (f_X5_processNamed n ru_0 z_in in_0 (0 : Int32) (in_0.1 1)) (fun (r_1 : Int32) =>
  Let (sI in_0 1 (0 : Int32)) (fun in_2 : OS =>
  some (in_2, r_1)))
def f_X8_longestFree (n : Nat) (sv_th : Value) (th_0 : OS) (no_0 : OS) : Option (Int32) :=
  bnd (f_X2_longestRow n no_0 (-1 : Int32)) (fun (r_1 : Int32) =>
  some r_1)
def f_X8_fine (n : Nat) (sv_th : Value) (th_0 : OS) (no_0 : OS) (v1_0 : Int32) (v2_0 : Int32) : Option (Int32 × Nat) :=
  if v2_0 < 0 then (
  some ((0 : Int32), 2)) else (
  if v2_0 ≤ (7 : Int32) then (
  bnd (f_X8_needFine n sv_th th_0 no_0 v1_0) (fun (cd_1 : Nat) =>
  if cd_1 = 0 then (
  bnd (f_X2_ofFine n no_0 v1_0 v2_0) (fun (r_2 : Int32) =>
  some (r_2, 0))) else (
  some ((0 : Int32), cd_1)))) else (
  some ((0 : Int32), 2)))
def f_X8_evidence (n : Nat) (sv_th : Value) (th_0 : OS) (no_0 : OS) (v1_0 : Int32) : Option (Int32 × Nat) :=
  bnd (f_X8_needFine n sv_th th_0 no_0 v1_0) (fun (cd_1 : Nat) =>
  if cd_1 = 0 then (
  bnd (f_X2_evidenceFor n no_0 v1_0) (fun (r_2 : Int32) =>
  some (r_2, 0))) else (
  some ((0 : Int32), cd_1)))
def f_X8_wasStalled (n : Nat) (sv_th : Value) (th_0 : OS) (ru_0 : OS) (no_0 : OS) (v1_0 : Int32) (v2_0 : Int32) : Option (Int32 × Nat) :=
  bnd (f_X8_needProcess n sv_th th_0 ru_0 v1_0) (fun (cd_1 : Nat) =>
  if cd_1 = 0 then (
  bnd (f_X2_stalledIn n no_0 v1_0 v2_0) (fun (r_2 : Int32) =>
  gZ r_2 (some (r_2, 0)))) else (
  some ((0 : Int32), cd_1)))
def f_X8_nextHearing (n : Nat) (sv_th : Value) (th_0 : OS) (ru_0 : OS) (no_0 : OS) : Option (Int32) :=
  bnd (f_X5_hearingAfter n ru_0 (no_0.1 0)) (fun (r_1 : Int32) =>
  some r_1)
def f_X8_shortage (n : Nat) (sv_th : Value) (th_0 : OS) (no_0 : OS) : Option (Int32) :=
  bnd (f_X2_waitingPages n no_0) (fun (r_1 : Int32) =>
  some (if (0 : Int32) < (r_1 - (no_0.1 2)) then (r_1 - (no_0.1 2)) else (0 : Int32)))
def f_X8_worst (n : Nat) (sv_th : Value) (th_0 : OS) (ru_0 : OS) (no_0 : OS) : Option (Int32) :=
  bnd (f_X2_greatestRecord n no_0 (ru_0.1 1)) (fun (r_1 : Int32) =>
  some r_1)
def s_X8_passToHearing_15 (n : Nat) (sv_th : Value) (th_0 : OS) (ru_0 : OS) (no_0 : OS) (w1_j15 : Int32) (rc_15 : (OS) → (Int32) → Option (OS)) (fo_j15 : OS) (w2_j15 : Int32) : Option (OS) :=
  if w1_j15 ≤ w2_j15 then (
  some fo_j15) else (
  bnd2 (f_X2_tick n fo_j15 ru_0) (fun (fo_3 : OS) (r_4 : Int32) =>
  Let (w2_j15 + (1 : Int32)) (fun v2_5 : Int32 =>
  rc_15 fo_3 v2_5)))
def l_X8_passToHearing_15 (n : Nat) (sv_th : Value) (th_0 : OS) (ru_0 : OS) (no_0 : OS) (w1_j15 : Int32) : Nat → (OS) → (Int32) → Option (OS)
  | 0 => fun _ _ => none
  | N + 1 => s_X8_passToHearing_15 n sv_th th_0 ru_0 no_0 w1_j15 (l_X8_passToHearing_15 n sv_th th_0 ru_0 no_0 w1_j15 N)
def f_X8_passToHearing (n : Nat) (sv_th : Value) (th_0 : OS) (ru_0 : OS) (no_0 : OS) (fo_0 : OS) : Option (OS) :=
  bnd (f_X8_nextHearing n sv_th th_0 ru_0 no_0) (fun (r_1 : Int32) =>
  Let (r_1 - (no_0.1 0)) (fun v1_2 : Int32 =>
  l_X8_passToHearing_15 n sv_th th_0 ru_0 no_0 v1_2 n fo_0 (0 : Int32)))
def f_X8_refusedIn (n : Nat) (sv_th : Value) (th_0 : OS) (ru_0 : OS) (no_0 : OS) (fo_0 : OS) (v1_0 : Int32) (v2_0 : Int32) : Option (OS × Int32 × Nat) :=
  bnd (f_X8_needClaim n sv_th th_0 no_0 v1_0) (fun (cd_1 : Nat) =>
  if cd_1 = 0 then (
  bnd (f_X8_needTicks n sv_th th_0 v2_0) (fun (cd_2 : Nat) =>
  if cd_2 = 0 then (
  bnd2 (f_X8_ticksUntil n sv_th th_0 ru_0 no_0 fo_0 v1_0 (2 : Int32) v2_0) (fun (fo_3 : OS) (r_4 : Int32) =>
  some (fo_3, r_4, 0))) else (
  some (fo_0, (0 : Int32), cd_2)))) else (
  some (fo_0, (0 : Int32), cd_1)))
def f_X8_wouldFine (n : Nat) (sv_th : Value) (th_0 : OS) (ru_0 : OS) (no_0 : OS) (fo_0 : OS) (v1_0 : Int32) : Option (OS × Int32 × Nat) :=
  bnd (f_X8_needLoan n sv_th th_0 no_0 v1_0) (fun (cd_1 : Nat) =>
  if cd_1 = 0 then (
  bnd (f_X8_nextHearing n sv_th th_0 ru_0 no_0) (fun (r_2 : Int32) =>
  if r_2 = (-1 : Int32) then (
  some (fo_0, (0 : Int32), 0)) else (
  bnd (f_X2_copyFrom n fo_0 no_0) (fun (fo_3 : OS) =>
  bnd (f_X8_passToHearing n sv_th th_0 ru_0 no_0 fo_3) (fun (fo_4 : OS) =>
  bnd (f_X6_get n (8 : Int32) 640 (fo_4.2.1 12) v1_0 (5 : Int32)) (fun (r_5 : Int32) =>
  some (fo_4, r_5, 0))))))) else (
  some (fo_0, (0 : Int32), cd_1)))
def f_X8_wouldPay (n : Nat) (sv_th : Value) (th_0 : OS) (ru_0 : OS) (no_0 : OS) (fo_0 : OS) (v1_0 : Int32) : Option (OS × Int32 × Nat) :=
  bnd (f_X8_needProcess n sv_th th_0 ru_0 v1_0) (fun (cd_1 : Nat) =>
  if cd_1 = 0 then (
  bnd (f_X8_nextHearing n sv_th th_0 ru_0 no_0) (fun (r_2 : Int32) =>
  if r_2 = (-1 : Int32) then (
  some (fo_0, (0 : Int32), 0)) else (
  bnd (f_X2_copyFrom n fo_0 no_0) (fun (fo_3 : OS) =>
  bnd (f_X8_passToHearing n sv_th th_0 ru_0 no_0 fo_3) (fun (fo_4 : OS) =>
  bnd (f_X2_latestFines n fo_4 v1_0) (fun (r_5 : Int32) =>
  some (fo_4, r_5, 0))))))) else (
  some (fo_0, (0 : Int32), cd_1)))
def f_X8_freeIn (n : Nat) (sv_th : Value) (th_0 : OS) (ru_0 : OS) (no_0 : OS) (fo_0 : OS) (v1_0 : Int32) : Option (OS × Int32 × Nat) :=
  bnd (f_X8_needTicks n sv_th th_0 v1_0) (fun (cd_1 : Nat) =>
  if cd_1 = 0 then (
  bnd (f_X2_copyFrom n fo_0 no_0) (fun (fo_2 : OS) =>
  bnd2 (f_X8_pass n sv_th th_0 ru_0 no_0 fo_2 v1_0) (fun (fo_3 : OS) (r_4 : Int32) =>
  some (fo_3, (fo_3.1 2), 0)))) else (
  some (fo_0, (0 : Int32), cd_1)))
def s_X8_helps_52 (n : Nat) (sv_th : Value) (th_0 : OS) (ru_0 : OS) (no_0 : OS) (w1_j52 : Int32) (w2_j52 : Int32) (w3_j52 : Int32) (rc_52 : (OS) → (Int32) → Option (OS × Int32 × Nat)) (fo_j52 : OS) (w4_j52 : Int32) : Option (OS × Int32 × Nat) :=
  if w3_j52 < w4_j52 then (
  some (fo_j52, (-1 : Int32), 0)) else (
  bnd (f_X2_copyFrom n fo_j52 no_0) (fun (fo_7 : OS) =>
  bnd (f_X2_release n fo_7 w1_j52 w4_j52) (fun (fo_8 : OS) =>
  bnd (f_X8_passToHearing n sv_th th_0 ru_0 no_0 fo_8) (fun (fo_9 : OS) =>
  bnd (f_X6_get n (7 : Int32) 420 (fo_9.2.1 13) w2_j52 (3 : Int32)) (fun (r_10 : Int32) =>
  if r_10 = (1 : Int32) then (
  some (fo_9, w4_j52, 0)) else (
  Let (w4_j52 + (1 : Int32)) (fun v4_11 : Int32 =>
  rc_52 fo_9 v4_11)))))))
def l_X8_helps_52 (n : Nat) (sv_th : Value) (th_0 : OS) (ru_0 : OS) (no_0 : OS) (w1_j52 : Int32) (w2_j52 : Int32) (w3_j52 : Int32) : Nat → (OS) → (Int32) → Option (OS × Int32 × Nat)
  | 0 => fun _ _ => none
  | N + 1 => s_X8_helps_52 n sv_th th_0 ru_0 no_0 w1_j52 w2_j52 w3_j52 (l_X8_helps_52 n sv_th th_0 ru_0 no_0 w1_j52 w2_j52 w3_j52 N)
def f_X8_helps (n : Nat) (sv_th : Value) (th_0 : OS) (ru_0 : OS) (no_0 : OS) (fo_0 : OS) (v1_0 : Int32) (v2_0 : Int32) : Option (OS × Int32 × Nat) :=
  bnd (f_X8_needLoan n sv_th th_0 no_0 v1_0) (fun (cd_1 : Nat) =>
  if cd_1 = 0 then (
  bnd (f_X8_needClaim n sv_th th_0 no_0 v2_0) (fun (cd_2 : Nat) =>
  if cd_2 = 0 then (
  bnd (f_X2_waits n no_0 v2_0) (fun (r_3 : Int32) =>
  if r_3 = 0 then (
  some (fo_0, (-1 : Int32), 0)) else (
  bnd (f_X8_nextHearing n sv_th th_0 ru_0 no_0) (fun (r_4 : Int32) =>
  if r_4 = (-1 : Int32) then (
  some (fo_0, (-1 : Int32), 0)) else (
  bnd (f_X6_get n (8 : Int32) 640 (no_0.2.1 12) v1_0 (1 : Int32)) (fun (r_5 : Int32) =>
  Let (if r_5 < (64 : Int32) then r_5 else (64 : Int32)) (fun v3_6 : Int32 =>
  l_X8_helps_52 n sv_th th_0 ru_0 no_0 v1_0 v2_0 v3_6 n fo_0 (0 : Int32)))))))) else (
  some (fo_0, (0 : Int32), cd_2)))) else (
  some (fo_0, (0 : Int32), cd_1)))
def f_X8_wouldAppeal (n : Nat) (sv_th : Value) (th_0 : OS) (ru_0 : OS) (no_0 : OS) (v1_0 : Int32) : Option (Int32 × Nat) :=
  bnd (f_X8_needFine n sv_th th_0 no_0 v1_0) (fun (cd_1 : Nat) =>
  if cd_1 = 0 then (
  bnd (f_X2_isAppealable n no_0 v1_0 (ru_0.1 6)) (fun (r_2 : Int32) =>
  if r_2 = 0 then (
  some ((-1 : Int32), 0)) else (
  bnd (f_X2_evidenceFor n no_0 v1_0) (fun (r_3 : Int32) =>
  bnd (f_X2_lessBy n no_0 v1_0 r_3) (fun (r_4 : Int32) =>
  some (r_4, 0)))))) else (
  some ((0 : Int32), cd_1)))
def f_X8_printProcess (n : Nat) (sv_th : Value) (th_0 : OS) (z_ou : Nat) (ou_0 : OS) (ru_0 : OS) (no_0 : OS) (v1_0 : Int32) : Option (OS × Int32 × Nat) :=
  bnd (f_X8_needProcess n sv_th th_0 ru_0 v1_0) (fun (cd_1 : Nat) =>
  if cd_1 = 0 then (
  Let (sI ou_0 1 (0 : Int32)) (fun ou_2 : OS =>
  bnd (f_X5_printName n ru_0 z_ou ou_2 v1_0) (fun (ou_3 : OS) =>
  bnd (f_X1_put n z_ou ou_3 (32 : Int32)) (fun (ou_4 : OS) =>
  bnd (f_X6_get n (5 : Int32) 40 (no_0.2.1 11) v1_0 (0 : Int32)) (fun (r_5 : Int32) =>
  bnd (f_X1_putNumber n z_ou ou_4 r_5) (fun (ou_6 : OS) =>
  bnd (f_X1_put n z_ou ou_6 (32 : Int32)) (fun (ou_7 : OS) =>
  bnd (f_X6_get n (5 : Int32) 40 (no_0.2.1 11) v1_0 (1 : Int32)) (fun (r_8 : Int32) =>
  bnd (f_X1_putNumber n z_ou ou_7 r_8) (fun (ou_9 : OS) =>
  bnd (f_X2_printLoans n no_0 z_ou ou_9 v1_0) (fun (ou_10 : OS) =>
  some (ou_10, (ou_10.1 1), 0))))))))))) else (
  some (ou_0, (0 : Int32), cd_1)))
def f_X8_outputByte (n : Nat) (sv_th : Value) (th_0 : OS) (z_ou : Nat) (ou_0 : OS) (v1_0 : Int32) : Option (Int32) :=
  bnd (f_X1_at n z_ou ou_0 v1_0) (fun (r_1 : Int32) =>
  some r_1)
