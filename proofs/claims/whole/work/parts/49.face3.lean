/-! the face: the methods that answer always -/
section FACE3
variable {P NP D K T LC CC FC E Bs F Pt Ap n : Nat} {no ru inp ou M x rd : OS} {pa : PS} {sv : Value} {p3 : Nat → Int64}
theorem lq_count (hU : Ru P NP E Bs F Pt Ap ru M) (hRR : RR P NP D T LC CC FC no (M.2.1 9)) (hpa : pa.1 2 = M.1 15) (hn : 100 < n) (v : Int32) : LQ M (f_X8_count n sv x ru no pa v) (f_X9_count n M v) := by
  have hR := hRR.1
  have h64 := hR.P64
  have hT := hR.time
  have hF := hR.mfines
  have oall : ∀ l, ofp (M.2.1 9) (-1) l = true := fun l => by
    unfold ofp
    rw [decide_eq_true rfl, Bool.true_or]
  have hop : fb_ct (fun l => decide (0 < pc (M.2.1 9) P (nI l)) && ofp (M.2.1 9) (-1) l) LC = fb_ct (fun l => decide (0 < pc (M.2.1 9) P (nI l))) LC := fb_ct_cong fun l _ => by rw [oall, Bool.and_true]
  have hbr : fb_ct (fun l => bk (M.2.1 9) P l && ofp (M.2.1 9) (-1) l) LC = fb_ct (fun l => bk (M.2.1 9) P l) LC := fb_ct_cong fun l _ => by rw [oall, Bool.and_true]
  by_cases hr : v.toInt < 0 ∨ 20 < v.toInt
  · refine ⟨-1, sI M 0 0, ?_, ?_, EqM.told M 0⟩
    · unfold f_X8_count
      rw [if_pos hr]
    · unfold f_X9_count
      rw [eLet, if_pos hr]
  have hv : vb v 21 = true := by
    cases h : vb v 21 with
    | true => rfl
    | false => exact absurd ((sw_in (k := 20) (by decide)).mpr h) hr
  obtain ⟨j, hj, rfl⟩ := vb_ok (by decide) hv
  clear hr hv
  have hj2 : j = 0 ∨ j = 1 ∨ j = 2 ∨ j = 3 ∨ j = 4 ∨ j = 5 ∨ j = 6 ∨ j = 7 ∨ j = 8 ∨ j = 9 ∨ j = 10 ∨ j = 11 ∨ j = 12 ∨ j = 13 ∨ j = 14 ∨ j = 15 ∨ j = 16 ∨ j = 17 ∨ j = 18 ∨ j = 19 ∨ j = 20 := by omega
  rcases hj2 with rfl | rfl | rfl | rfl | rfl | rfl | rfl | rfl | rfl | rfl | rfl | rfl | rfl | rfl | rfl | rfl | rfl | rfl | rfl | rfl | rfl
  · refine ⟨nI P, sI M 0 0, ?_, ?_, EqM.told M 0⟩
    · unfold f_X8_count
      rw [show nI 0 = (0 : Int32) from rfl, if_neg (show ¬ ((0 : Int32).toInt < 0 ∨ 20 < (0 : Int32).toInt) from by decide), if_pos (show (0 : Int32) = 0 from rfl), hU.1.1]
    · unfold f_X9_count
      rw [eLet, show nI 0 = (0 : Int32) from rfl, if_neg (show ¬ ((0 : Int32).toInt < 0 ∨ 20 < (0 : Int32).toInt) from by decide), if_pos (show (0 : Int32) = 0 from rfl), show (sI M 0 0).1 1 = _ from hU.2.1.1]
  · refine ⟨nI NP, sI M 0 0, ?_, ?_, EqM.told M 0⟩
    · unfold f_X8_count
      rw [show nI 1 = (1 : Int32) from rfl, if_neg (show ¬ ((1 : Int32).toInt < 0 ∨ 20 < (1 : Int32).toInt) from by decide), if_neg (show ¬ (1 : Int32) = 0 from by decide), if_pos (show (1 : Int32) = 1 from rfl), hU.1.2.1]
    · unfold f_X9_count
      rw [eLet, show nI 1 = (1 : Int32) from rfl, if_neg (show ¬ ((1 : Int32).toInt < 0 ∨ 20 < (1 : Int32).toInt) from by decide), if_neg (show ¬ (1 : Int32) = 0 from by decide), if_pos (show (1 : Int32) = 1 from rfl), show (sI M 0 0).1 2 = _ from hU.2.1.2.1]
  · refine ⟨nI T, sI M 0 0, ?_, ?_, EqM.told M 0⟩
    · unfold f_X8_count
      rw [show nI 2 = (2 : Int32) from rfl, if_neg (show ¬ ((2 : Int32).toInt < 0 ∨ 20 < (2 : Int32).toInt) from by decide), if_neg (show ¬ (2 : Int32) = 0 from by decide), if_neg (show ¬ (2 : Int32) = 1 from by decide), if_pos (show (2 : Int32) = 2 from rfl), hT.2.1]
    · unfold f_X9_count
      rw [eLet, show nI 2 = (2 : Int32) from rfl, if_neg (show ¬ ((2 : Int32).toInt < 0 ∨ 20 < (2 : Int32).toInt) from by decide), if_neg (show ¬ (2 : Int32) = 0 from by decide), if_neg (show ¬ (2 : Int32) = 1 from by decide), if_pos (show (2 : Int32) = 2 from rfl), gz0, show (sI M 0 0).2.1 9 0 = _ from hT.1]
  · refine ⟨M.2.1 9 1, sI M 0 0, ?_, ?_, EqM.told M 0⟩
    · unfold f_X8_count
      rw [show nI 3 = (3 : Int32) from rfl, if_neg (show ¬ ((3 : Int32).toInt < 0 ∨ 20 < (3 : Int32).toInt) from by decide), if_neg (show ¬ (3 : Int32) = 0 from by decide), if_neg (show ¬ (3 : Int32) = 1 from by decide), if_neg (show ¬ (3 : Int32) = 2 from by decide), if_pos (show (3 : Int32) = 3 from rfl), hR.1.1.2.1]
    · unfold f_X9_count
      rw [eLet, show nI 3 = (3 : Int32) from rfl, if_neg (show ¬ ((3 : Int32).toInt < 0 ∨ 20 < (3 : Int32).toInt) from by decide), if_neg (show ¬ (3 : Int32) = 0 from by decide), if_neg (show ¬ (3 : Int32) = 1 from by decide), if_neg (show ¬ (3 : Int32) = 2 from by decide), if_pos (show (3 : Int32) = 3 from rfl), gz1]; rfl
  · refine ⟨nI E, sI M 0 0, ?_, ?_, EqM.told M 0⟩
    · unfold f_X8_count
      rw [show nI 4 = (4 : Int32) from rfl, if_neg (show ¬ ((4 : Int32).toInt < 0 ∨ 20 < (4 : Int32).toInt) from by decide), if_neg (show ¬ (4 : Int32) = 0 from by decide), if_neg (show ¬ (4 : Int32) = 1 from by decide), if_neg (show ¬ (4 : Int32) = 2 from by decide), if_neg (show ¬ (4 : Int32) = 3 from by decide), if_pos (show (4 : Int32) = 4 from rfl), hU.1.2.2.1]
    · unfold f_X9_count
      rw [eLet, show nI 4 = (4 : Int32) from rfl, if_neg (show ¬ ((4 : Int32).toInt < 0 ∨ 20 < (4 : Int32).toInt) from by decide), if_neg (show ¬ (4 : Int32) = 0 from by decide), if_neg (show ¬ (4 : Int32) = 1 from by decide), if_neg (show ¬ (4 : Int32) = 2 from by decide), if_neg (show ¬ (4 : Int32) = 3 from by decide), if_pos (show (4 : Int32) = 4 from rfl), show (sI M 0 0).1 3 = _ from hU.2.1.2.2.1]
  · refine ⟨nI Bs, sI M 0 0, ?_, ?_, EqM.told M 0⟩
    · unfold f_X8_count
      rw [show nI 5 = (5 : Int32) from rfl, if_neg (show ¬ ((5 : Int32).toInt < 0 ∨ 20 < (5 : Int32).toInt) from by decide), if_neg (show ¬ (5 : Int32) = 0 from by decide), if_neg (show ¬ (5 : Int32) = 1 from by decide), if_neg (show ¬ (5 : Int32) = 2 from by decide), if_neg (show ¬ (5 : Int32) = 3 from by decide), if_neg (show ¬ (5 : Int32) = 4 from by decide), if_pos (show (5 : Int32) = 5 from rfl), hU.1.2.2.2.1]
    · unfold f_X9_count
      rw [eLet, show nI 5 = (5 : Int32) from rfl, if_neg (show ¬ ((5 : Int32).toInt < 0 ∨ 20 < (5 : Int32).toInt) from by decide), if_neg (show ¬ (5 : Int32) = 0 from by decide), if_neg (show ¬ (5 : Int32) = 1 from by decide), if_neg (show ¬ (5 : Int32) = 2 from by decide), if_neg (show ¬ (5 : Int32) = 3 from by decide), if_neg (show ¬ (5 : Int32) = 4 from by decide), if_pos (show (5 : Int32) = 5 from rfl), show (sI M 0 0).1 4 = _ from hU.2.1.2.2.2.1]
  · refine ⟨nI F, sI M 0 0, ?_, ?_, EqM.told M 0⟩
    · unfold f_X8_count
      rw [show nI 6 = (6 : Int32) from rfl, if_neg (show ¬ ((6 : Int32).toInt < 0 ∨ 20 < (6 : Int32).toInt) from by decide), if_neg (show ¬ (6 : Int32) = 0 from by decide), if_neg (show ¬ (6 : Int32) = 1 from by decide), if_neg (show ¬ (6 : Int32) = 2 from by decide), if_neg (show ¬ (6 : Int32) = 3 from by decide), if_neg (show ¬ (6 : Int32) = 4 from by decide), if_neg (show ¬ (6 : Int32) = 5 from by decide), if_pos (show (6 : Int32) = 6 from rfl), hU.1.2.2.2.2.1]
    · unfold f_X9_count
      rw [eLet, show nI 6 = (6 : Int32) from rfl, if_neg (show ¬ ((6 : Int32).toInt < 0 ∨ 20 < (6 : Int32).toInt) from by decide), if_neg (show ¬ (6 : Int32) = 0 from by decide), if_neg (show ¬ (6 : Int32) = 1 from by decide), if_neg (show ¬ (6 : Int32) = 2 from by decide), if_neg (show ¬ (6 : Int32) = 3 from by decide), if_neg (show ¬ (6 : Int32) = 4 from by decide), if_neg (show ¬ (6 : Int32) = 5 from by decide), if_pos (show (6 : Int32) = 6 from rfl), show (sI M 0 0).1 5 = _ from hU.2.1.2.2.2.2.1]
  · refine ⟨nI Pt, sI M 0 0, ?_, ?_, EqM.told M 0⟩
    · unfold f_X8_count
      rw [show nI 7 = (7 : Int32) from rfl, if_neg (show ¬ ((7 : Int32).toInt < 0 ∨ 20 < (7 : Int32).toInt) from by decide), if_neg (show ¬ (7 : Int32) = 0 from by decide), if_neg (show ¬ (7 : Int32) = 1 from by decide), if_neg (show ¬ (7 : Int32) = 2 from by decide), if_neg (show ¬ (7 : Int32) = 3 from by decide), if_neg (show ¬ (7 : Int32) = 4 from by decide), if_neg (show ¬ (7 : Int32) = 5 from by decide), if_neg (show ¬ (7 : Int32) = 6 from by decide), if_pos (show (7 : Int32) = 7 from rfl), hU.1.2.2.2.2.2.1]
    · unfold f_X9_count
      rw [eLet, show nI 7 = (7 : Int32) from rfl, if_neg (show ¬ ((7 : Int32).toInt < 0 ∨ 20 < (7 : Int32).toInt) from by decide), if_neg (show ¬ (7 : Int32) = 0 from by decide), if_neg (show ¬ (7 : Int32) = 1 from by decide), if_neg (show ¬ (7 : Int32) = 2 from by decide), if_neg (show ¬ (7 : Int32) = 3 from by decide), if_neg (show ¬ (7 : Int32) = 4 from by decide), if_neg (show ¬ (7 : Int32) = 5 from by decide), if_neg (show ¬ (7 : Int32) = 6 from by decide), if_pos (show (7 : Int32) = 7 from rfl), show (sI M 0 0).1 6 = _ from hU.2.1.2.2.2.2.2.1]
  · refine ⟨nI Ap, sI M 0 0, ?_, ?_, EqM.told M 0⟩
    · unfold f_X8_count
      rw [show nI 8 = (8 : Int32) from rfl, if_neg (show ¬ ((8 : Int32).toInt < 0 ∨ 20 < (8 : Int32).toInt) from by decide), if_neg (show ¬ (8 : Int32) = 0 from by decide), if_neg (show ¬ (8 : Int32) = 1 from by decide), if_neg (show ¬ (8 : Int32) = 2 from by decide), if_neg (show ¬ (8 : Int32) = 3 from by decide), if_neg (show ¬ (8 : Int32) = 4 from by decide), if_neg (show ¬ (8 : Int32) = 5 from by decide), if_neg (show ¬ (8 : Int32) = 6 from by decide), if_neg (show ¬ (8 : Int32) = 7 from by decide), if_pos (show (8 : Int32) = 8 from rfl), hU.1.2.2.2.2.2.2]
    · unfold f_X9_count
      rw [eLet, show nI 8 = (8 : Int32) from rfl, if_neg (show ¬ ((8 : Int32).toInt < 0 ∨ 20 < (8 : Int32).toInt) from by decide), if_neg (show ¬ (8 : Int32) = 0 from by decide), if_neg (show ¬ (8 : Int32) = 1 from by decide), if_neg (show ¬ (8 : Int32) = 2 from by decide), if_neg (show ¬ (8 : Int32) = 3 from by decide), if_neg (show ¬ (8 : Int32) = 4 from by decide), if_neg (show ¬ (8 : Int32) = 5 from by decide), if_neg (show ¬ (8 : Int32) = 6 from by decide), if_neg (show ¬ (8 : Int32) = 7 from by decide), if_pos (show (8 : Int32) = 8 from rfl), show (sI M 0 0).1 7 = _ from hU.2.1.2.2.2.2.2.2]
  · refine ⟨nI (pc (M.2.1 9) P (-1)), sI M 0 0, ?_, ?_, EqM.told M 0⟩
    · unfold f_X8_count
      rw [show nI 9 = (9 : Int32) from rfl, if_neg (show ¬ ((9 : Int32).toInt < 0 ∨ 20 < (9 : Int32).toInt) from by decide), if_neg (show ¬ (9 : Int32) = 0 from by decide), if_neg (show ¬ (9 : Int32) = 1 from by decide), if_neg (show ¬ (9 : Int32) = 2 from by decide), if_neg (show ¬ (9 : Int32) = 3 from by decide), if_neg (show ¬ (9 : Int32) = 4 from by decide), if_neg (show ¬ (9 : Int32) = 5 from by decide), if_neg (show ¬ (9 : Int32) = 6 from by decide), if_neg (show ¬ (9 : Int32) = 7 from by decide), if_neg (show ¬ (9 : Int32) = 8 from by decide), if_pos (show (9 : Int32) = 9 from rfl), hR.1.2.2.1]
    · unfold f_X9_count
      rw [eLet, show nI 9 = (9 : Int32) from rfl, if_neg (show ¬ ((9 : Int32).toInt < 0 ∨ 20 < (9 : Int32).toInt) from by decide), if_neg (show ¬ (9 : Int32) = 0 from by decide), if_neg (show ¬ (9 : Int32) = 1 from by decide), if_neg (show ¬ (9 : Int32) = 2 from by decide), if_neg (show ¬ (9 : Int32) = 3 from by decide), if_neg (show ¬ (9 : Int32) = 4 from by decide), if_neg (show ¬ (9 : Int32) = 5 from by decide), if_neg (show ¬ (9 : Int32) = 6 from by decide), if_neg (show ¬ (9 : Int32) = 7 from by decide), if_neg (show ¬ (9 : Int32) = 8 from by decide), if_pos (show (9 : Int32) = 9 from rfl), m_free (M := sI M 0 0) hU.2.1.1 h64 hn, ebnd]; rfl
  · refine ⟨nI LC, sI M 0 0, ?_, ?_, EqM.told M 0⟩
    · unfold f_X8_count
      rw [show nI 10 = (10 : Int32) from rfl, if_neg (show ¬ ((10 : Int32).toInt < 0 ∨ 20 < (10 : Int32).toInt) from by decide), if_neg (show ¬ (10 : Int32) = 0 from by decide), if_neg (show ¬ (10 : Int32) = 1 from by decide), if_neg (show ¬ (10 : Int32) = 2 from by decide), if_neg (show ¬ (10 : Int32) = 3 from by decide), if_neg (show ¬ (10 : Int32) = 4 from by decide), if_neg (show ¬ (10 : Int32) = 5 from by decide), if_neg (show ¬ (10 : Int32) = 6 from by decide), if_neg (show ¬ (10 : Int32) = 7 from by decide), if_neg (show ¬ (10 : Int32) = 8 from by decide), if_neg (show ¬ (10 : Int32) = 9 from by decide), if_pos (show (10 : Int32) = 10 from rfl), hR.loans]
    · unfold f_X9_count
      rw [eLet, show nI 10 = (10 : Int32) from rfl, if_neg (show ¬ ((10 : Int32).toInt < 0 ∨ 20 < (10 : Int32).toInt) from by decide), if_neg (show ¬ (10 : Int32) = 0 from by decide), if_neg (show ¬ (10 : Int32) = 1 from by decide), if_neg (show ¬ (10 : Int32) = 2 from by decide), if_neg (show ¬ (10 : Int32) = 3 from by decide), if_neg (show ¬ (10 : Int32) = 4 from by decide), if_neg (show ¬ (10 : Int32) = 5 from by decide), if_neg (show ¬ (10 : Int32) = 6 from by decide), if_neg (show ¬ (10 : Int32) = 7 from by decide), if_neg (show ¬ (10 : Int32) = 8 from by decide), if_neg (show ¬ (10 : Int32) = 9 from by decide), if_pos (show (10 : Int32) = 10 from rfl), gz6, show (sI M 0 0).2.1 9 6 = _ from hR.mloans]
  · refine ⟨nI (fb_ct (fun l => decide (0 < pc (M.2.1 9) P (nI l))) LC), sI M 0 0, ?_, ?_, EqM.told M 0⟩
    · unfold f_X8_count
      rw [show nI 11 = (11 : Int32) from rfl, if_neg (show ¬ ((11 : Int32).toInt < 0 ∨ 20 < (11 : Int32).toInt) from by decide), if_neg (show ¬ (11 : Int32) = 0 from by decide), if_neg (show ¬ (11 : Int32) = 1 from by decide), if_neg (show ¬ (11 : Int32) = 2 from by decide), if_neg (show ¬ (11 : Int32) = 3 from by decide), if_neg (show ¬ (11 : Int32) = 4 from by decide), if_neg (show ¬ (11 : Int32) = 5 from by decide), if_neg (show ¬ (11 : Int32) = 6 from by decide), if_neg (show ¬ (11 : Int32) = 7 from by decide), if_neg (show ¬ (11 : Int32) = 8 from by decide), if_neg (show ¬ (11 : Int32) = 9 from by decide), if_neg (show ¬ (11 : Int32) = 10 from by decide), if_pos (show (11 : Int32) = 11 from rfl), c_openLoans hR h64 hn, ebnd, hop]
    · unfold f_X9_count
      rw [eLet, show nI 11 = (11 : Int32) from rfl, if_neg (show ¬ ((11 : Int32).toInt < 0 ∨ 20 < (11 : Int32).toInt) from by decide), if_neg (show ¬ (11 : Int32) = 0 from by decide), if_neg (show ¬ (11 : Int32) = 1 from by decide), if_neg (show ¬ (11 : Int32) = 2 from by decide), if_neg (show ¬ (11 : Int32) = 3 from by decide), if_neg (show ¬ (11 : Int32) = 4 from by decide), if_neg (show ¬ (11 : Int32) = 5 from by decide), if_neg (show ¬ (11 : Int32) = 6 from by decide), if_neg (show ¬ (11 : Int32) = 7 from by decide), if_neg (show ¬ (11 : Int32) = 8 from by decide), if_neg (show ¬ (11 : Int32) = 9 from by decide), if_neg (show ¬ (11 : Int32) = 10 from by decide), if_pos (show (11 : Int32) = 11 from rfl), show f_X9_openLoans n (sI M 0 0) (0 : Int32) = _ from m_openLoans (M := sI M 0 0) hR hU.2.1.1 hn false, ebnd]; rfl
  · refine ⟨nI (fb_ct (fun l => bk (M.2.1 9) P l) LC), sI M 0 0, ?_, ?_, EqM.told M 0⟩
    · unfold f_X8_count
      rw [show nI 12 = (12 : Int32) from rfl, if_neg (show ¬ ((12 : Int32).toInt < 0 ∨ 20 < (12 : Int32).toInt) from by decide), if_neg (show ¬ (12 : Int32) = 0 from by decide), if_neg (show ¬ (12 : Int32) = 1 from by decide), if_neg (show ¬ (12 : Int32) = 2 from by decide), if_neg (show ¬ (12 : Int32) = 3 from by decide), if_neg (show ¬ (12 : Int32) = 4 from by decide), if_neg (show ¬ (12 : Int32) = 5 from by decide), if_neg (show ¬ (12 : Int32) = 6 from by decide), if_neg (show ¬ (12 : Int32) = 7 from by decide), if_neg (show ¬ (12 : Int32) = 8 from by decide), if_neg (show ¬ (12 : Int32) = 9 from by decide), if_neg (show ¬ (12 : Int32) = 10 from by decide), if_neg (show ¬ (12 : Int32) = 11 from by decide), if_pos (show (12 : Int32) = 12 from rfl), c_brokenLoans hR h64 hn, ebnd, hbr]
    · unfold f_X9_count
      rw [eLet, show nI 12 = (12 : Int32) from rfl, if_neg (show ¬ ((12 : Int32).toInt < 0 ∨ 20 < (12 : Int32).toInt) from by decide), if_neg (show ¬ (12 : Int32) = 0 from by decide), if_neg (show ¬ (12 : Int32) = 1 from by decide), if_neg (show ¬ (12 : Int32) = 2 from by decide), if_neg (show ¬ (12 : Int32) = 3 from by decide), if_neg (show ¬ (12 : Int32) = 4 from by decide), if_neg (show ¬ (12 : Int32) = 5 from by decide), if_neg (show ¬ (12 : Int32) = 6 from by decide), if_neg (show ¬ (12 : Int32) = 7 from by decide), if_neg (show ¬ (12 : Int32) = 8 from by decide), if_neg (show ¬ (12 : Int32) = 9 from by decide), if_neg (show ¬ (12 : Int32) = 10 from by decide), if_neg (show ¬ (12 : Int32) = 11 from by decide), if_pos (show (12 : Int32) = 12 from rfl), show f_X9_openLoans n (sI M 0 0) (1 : Int32) = _ from m_openLoans (M := sI M 0 0) hR hU.2.1.1 hn true, ebnd]; rfl
  · refine ⟨nI CC, sI M 0 0, ?_, ?_, EqM.told M 0⟩
    · unfold f_X8_count
      rw [show nI 13 = (13 : Int32) from rfl, if_neg (show ¬ ((13 : Int32).toInt < 0 ∨ 20 < (13 : Int32).toInt) from by decide), if_neg (show ¬ (13 : Int32) = 0 from by decide), if_neg (show ¬ (13 : Int32) = 1 from by decide), if_neg (show ¬ (13 : Int32) = 2 from by decide), if_neg (show ¬ (13 : Int32) = 3 from by decide), if_neg (show ¬ (13 : Int32) = 4 from by decide), if_neg (show ¬ (13 : Int32) = 5 from by decide), if_neg (show ¬ (13 : Int32) = 6 from by decide), if_neg (show ¬ (13 : Int32) = 7 from by decide), if_neg (show ¬ (13 : Int32) = 8 from by decide), if_neg (show ¬ (13 : Int32) = 9 from by decide), if_neg (show ¬ (13 : Int32) = 10 from by decide), if_neg (show ¬ (13 : Int32) = 11 from by decide), if_neg (show ¬ (13 : Int32) = 12 from by decide), if_pos (show (13 : Int32) = 13 from rfl), hR.claims]
    · unfold f_X9_count
      rw [eLet, show nI 13 = (13 : Int32) from rfl, if_neg (show ¬ ((13 : Int32).toInt < 0 ∨ 20 < (13 : Int32).toInt) from by decide), if_neg (show ¬ (13 : Int32) = 0 from by decide), if_neg (show ¬ (13 : Int32) = 1 from by decide), if_neg (show ¬ (13 : Int32) = 2 from by decide), if_neg (show ¬ (13 : Int32) = 3 from by decide), if_neg (show ¬ (13 : Int32) = 4 from by decide), if_neg (show ¬ (13 : Int32) = 5 from by decide), if_neg (show ¬ (13 : Int32) = 6 from by decide), if_neg (show ¬ (13 : Int32) = 7 from by decide), if_neg (show ¬ (13 : Int32) = 8 from by decide), if_neg (show ¬ (13 : Int32) = 9 from by decide), if_neg (show ¬ (13 : Int32) = 10 from by decide), if_neg (show ¬ (13 : Int32) = 11 from by decide), if_neg (show ¬ (13 : Int32) = 12 from by decide), if_pos (show (13 : Int32) = 13 from rfl), gz7, show (sI M 0 0).2.1 9 7 = _ from hR.mclaims]
  · refine ⟨nI (stc (M.2.1 9) 0 CC), sI M 0 0, ?_, ?_, EqM.told M 0⟩
    · unfold f_X8_count
      rw [show nI 14 = (14 : Int32) from rfl, if_neg (show ¬ ((14 : Int32).toInt < 0 ∨ 20 < (14 : Int32).toInt) from by decide), if_neg (show ¬ (14 : Int32) = 0 from by decide), if_neg (show ¬ (14 : Int32) = 1 from by decide), if_neg (show ¬ (14 : Int32) = 2 from by decide), if_neg (show ¬ (14 : Int32) = 3 from by decide), if_neg (show ¬ (14 : Int32) = 4 from by decide), if_neg (show ¬ (14 : Int32) = 5 from by decide), if_neg (show ¬ (14 : Int32) = 6 from by decide), if_neg (show ¬ (14 : Int32) = 7 from by decide), if_neg (show ¬ (14 : Int32) = 8 from by decide), if_neg (show ¬ (14 : Int32) = 9 from by decide), if_neg (show ¬ (14 : Int32) = 10 from by decide), if_neg (show ¬ (14 : Int32) = 11 from by decide), if_neg (show ¬ (14 : Int32) = 12 from by decide), if_neg (show ¬ (14 : Int32) = 13 from by decide), if_pos (show (14 : Int32) = 14 from rfl), c_claimsThat hR hn, ebnd, clm_all]
    · unfold f_X9_count
      rw [eLet, show nI 14 = (14 : Int32) from rfl, if_neg (show ¬ ((14 : Int32).toInt < 0 ∨ 20 < (14 : Int32).toInt) from by decide), if_neg (show ¬ (14 : Int32) = 0 from by decide), if_neg (show ¬ (14 : Int32) = 1 from by decide), if_neg (show ¬ (14 : Int32) = 2 from by decide), if_neg (show ¬ (14 : Int32) = 3 from by decide), if_neg (show ¬ (14 : Int32) = 4 from by decide), if_neg (show ¬ (14 : Int32) = 5 from by decide), if_neg (show ¬ (14 : Int32) = 6 from by decide), if_neg (show ¬ (14 : Int32) = 7 from by decide), if_neg (show ¬ (14 : Int32) = 8 from by decide), if_neg (show ¬ (14 : Int32) = 9 from by decide), if_neg (show ¬ (14 : Int32) = 10 from by decide), if_neg (show ¬ (14 : Int32) = 11 from by decide), if_neg (show ¬ (14 : Int32) = 12 from by decide), if_neg (show ¬ (14 : Int32) = 13 from by decide), if_pos (show (14 : Int32) = 14 from rfl), m_waitingMany (M := sI M 0 0) hR hn, ebnd]; rfl
  · refine ⟨nI (stc (M.2.1 9) 1 CC), sI M 0 0, ?_, ?_, EqM.told M 0⟩
    · unfold f_X8_count
      rw [show nI 15 = (15 : Int32) from rfl, if_neg (show ¬ ((15 : Int32).toInt < 0 ∨ 20 < (15 : Int32).toInt) from by decide), if_neg (show ¬ (15 : Int32) = 0 from by decide), if_neg (show ¬ (15 : Int32) = 1 from by decide), if_neg (show ¬ (15 : Int32) = 2 from by decide), if_neg (show ¬ (15 : Int32) = 3 from by decide), if_neg (show ¬ (15 : Int32) = 4 from by decide), if_neg (show ¬ (15 : Int32) = 5 from by decide), if_neg (show ¬ (15 : Int32) = 6 from by decide), if_neg (show ¬ (15 : Int32) = 7 from by decide), if_neg (show ¬ (15 : Int32) = 8 from by decide), if_neg (show ¬ (15 : Int32) = 9 from by decide), if_neg (show ¬ (15 : Int32) = 10 from by decide), if_neg (show ¬ (15 : Int32) = 11 from by decide), if_neg (show ¬ (15 : Int32) = 12 from by decide), if_neg (show ¬ (15 : Int32) = 13 from by decide), if_neg (show ¬ (15 : Int32) = 14 from by decide), if_pos (show (15 : Int32) = 15 from rfl), c_claimsThat hR hn, ebnd, clm_all]
    · unfold f_X9_count
      rw [eLet, show nI 15 = (15 : Int32) from rfl, if_neg (show ¬ ((15 : Int32).toInt < 0 ∨ 20 < (15 : Int32).toInt) from by decide), if_neg (show ¬ (15 : Int32) = 0 from by decide), if_neg (show ¬ (15 : Int32) = 1 from by decide), if_neg (show ¬ (15 : Int32) = 2 from by decide), if_neg (show ¬ (15 : Int32) = 3 from by decide), if_neg (show ¬ (15 : Int32) = 4 from by decide), if_neg (show ¬ (15 : Int32) = 5 from by decide), if_neg (show ¬ (15 : Int32) = 6 from by decide), if_neg (show ¬ (15 : Int32) = 7 from by decide), if_neg (show ¬ (15 : Int32) = 8 from by decide), if_neg (show ¬ (15 : Int32) = 9 from by decide), if_neg (show ¬ (15 : Int32) = 10 from by decide), if_neg (show ¬ (15 : Int32) = 11 from by decide), if_neg (show ¬ (15 : Int32) = 12 from by decide), if_neg (show ¬ (15 : Int32) = 13 from by decide), if_neg (show ¬ (15 : Int32) = 14 from by decide), if_pos (show (15 : Int32) = 15 from rfl), gz8, show (sI M 0 0).2.1 9 8 = _ from hR.2.2.2.2.2.2.2.1.1]
  · refine ⟨nI (stc (M.2.1 9) 2 CC), sI M 0 0, ?_, ?_, EqM.told M 0⟩
    · unfold f_X8_count
      rw [show nI 16 = (16 : Int32) from rfl, if_neg (show ¬ ((16 : Int32).toInt < 0 ∨ 20 < (16 : Int32).toInt) from by decide), if_neg (show ¬ (16 : Int32) = 0 from by decide), if_neg (show ¬ (16 : Int32) = 1 from by decide), if_neg (show ¬ (16 : Int32) = 2 from by decide), if_neg (show ¬ (16 : Int32) = 3 from by decide), if_neg (show ¬ (16 : Int32) = 4 from by decide), if_neg (show ¬ (16 : Int32) = 5 from by decide), if_neg (show ¬ (16 : Int32) = 6 from by decide), if_neg (show ¬ (16 : Int32) = 7 from by decide), if_neg (show ¬ (16 : Int32) = 8 from by decide), if_neg (show ¬ (16 : Int32) = 9 from by decide), if_neg (show ¬ (16 : Int32) = 10 from by decide), if_neg (show ¬ (16 : Int32) = 11 from by decide), if_neg (show ¬ (16 : Int32) = 12 from by decide), if_neg (show ¬ (16 : Int32) = 13 from by decide), if_neg (show ¬ (16 : Int32) = 14 from by decide), if_neg (show ¬ (16 : Int32) = 15 from by decide), if_pos (show (16 : Int32) = 16 from rfl), c_claimsThat hR hn, ebnd, clm_all]
    · unfold f_X9_count
      rw [eLet, show nI 16 = (16 : Int32) from rfl, if_neg (show ¬ ((16 : Int32).toInt < 0 ∨ 20 < (16 : Int32).toInt) from by decide), if_neg (show ¬ (16 : Int32) = 0 from by decide), if_neg (show ¬ (16 : Int32) = 1 from by decide), if_neg (show ¬ (16 : Int32) = 2 from by decide), if_neg (show ¬ (16 : Int32) = 3 from by decide), if_neg (show ¬ (16 : Int32) = 4 from by decide), if_neg (show ¬ (16 : Int32) = 5 from by decide), if_neg (show ¬ (16 : Int32) = 6 from by decide), if_neg (show ¬ (16 : Int32) = 7 from by decide), if_neg (show ¬ (16 : Int32) = 8 from by decide), if_neg (show ¬ (16 : Int32) = 9 from by decide), if_neg (show ¬ (16 : Int32) = 10 from by decide), if_neg (show ¬ (16 : Int32) = 11 from by decide), if_neg (show ¬ (16 : Int32) = 12 from by decide), if_neg (show ¬ (16 : Int32) = 13 from by decide), if_neg (show ¬ (16 : Int32) = 14 from by decide), if_neg (show ¬ (16 : Int32) = 15 from by decide), if_pos (show (16 : Int32) = 16 from rfl), gz9, show (sI M 0 0).2.1 9 9 = _ from hR.2.2.2.2.2.2.2.1.2.1]
  · refine ⟨M.2.1 9 2, sI M 0 0, ?_, ?_, EqM.told M 0⟩
    · unfold f_X8_count
      rw [show nI 17 = (17 : Int32) from rfl, if_neg (show ¬ ((17 : Int32).toInt < 0 ∨ 20 < (17 : Int32).toInt) from by decide), if_neg (show ¬ (17 : Int32) = 0 from by decide), if_neg (show ¬ (17 : Int32) = 1 from by decide), if_neg (show ¬ (17 : Int32) = 2 from by decide), if_neg (show ¬ (17 : Int32) = 3 from by decide), if_neg (show ¬ (17 : Int32) = 4 from by decide), if_neg (show ¬ (17 : Int32) = 5 from by decide), if_neg (show ¬ (17 : Int32) = 6 from by decide), if_neg (show ¬ (17 : Int32) = 7 from by decide), if_neg (show ¬ (17 : Int32) = 8 from by decide), if_neg (show ¬ (17 : Int32) = 9 from by decide), if_neg (show ¬ (17 : Int32) = 10 from by decide), if_neg (show ¬ (17 : Int32) = 11 from by decide), if_neg (show ¬ (17 : Int32) = 12 from by decide), if_neg (show ¬ (17 : Int32) = 13 from by decide), if_neg (show ¬ (17 : Int32) = 14 from by decide), if_neg (show ¬ (17 : Int32) = 15 from by decide), if_neg (show ¬ (17 : Int32) = 16 from by decide), if_pos (show (17 : Int32) = 17 from rfl), hRR.2.1.1]
    · unfold f_X9_count
      rw [eLet, show nI 17 = (17 : Int32) from rfl, if_neg (show ¬ ((17 : Int32).toInt < 0 ∨ 20 < (17 : Int32).toInt) from by decide), if_neg (show ¬ (17 : Int32) = 0 from by decide), if_neg (show ¬ (17 : Int32) = 1 from by decide), if_neg (show ¬ (17 : Int32) = 2 from by decide), if_neg (show ¬ (17 : Int32) = 3 from by decide), if_neg (show ¬ (17 : Int32) = 4 from by decide), if_neg (show ¬ (17 : Int32) = 5 from by decide), if_neg (show ¬ (17 : Int32) = 6 from by decide), if_neg (show ¬ (17 : Int32) = 7 from by decide), if_neg (show ¬ (17 : Int32) = 8 from by decide), if_neg (show ¬ (17 : Int32) = 9 from by decide), if_neg (show ¬ (17 : Int32) = 10 from by decide), if_neg (show ¬ (17 : Int32) = 11 from by decide), if_neg (show ¬ (17 : Int32) = 12 from by decide), if_neg (show ¬ (17 : Int32) = 13 from by decide), if_neg (show ¬ (17 : Int32) = 14 from by decide), if_neg (show ¬ (17 : Int32) = 15 from by decide), if_neg (show ¬ (17 : Int32) = 16 from by decide), if_pos (show (17 : Int32) = 17 from rfl), gz2]; rfl
  · refine ⟨nI FC, sI M 0 0, ?_, ?_, EqM.told M 0⟩
    · unfold f_X8_count
      rw [show nI 18 = (18 : Int32) from rfl, if_neg (show ¬ ((18 : Int32).toInt < 0 ∨ 20 < (18 : Int32).toInt) from by decide), if_neg (show ¬ (18 : Int32) = 0 from by decide), if_neg (show ¬ (18 : Int32) = 1 from by decide), if_neg (show ¬ (18 : Int32) = 2 from by decide), if_neg (show ¬ (18 : Int32) = 3 from by decide), if_neg (show ¬ (18 : Int32) = 4 from by decide), if_neg (show ¬ (18 : Int32) = 5 from by decide), if_neg (show ¬ (18 : Int32) = 6 from by decide), if_neg (show ¬ (18 : Int32) = 7 from by decide), if_neg (show ¬ (18 : Int32) = 8 from by decide), if_neg (show ¬ (18 : Int32) = 9 from by decide), if_neg (show ¬ (18 : Int32) = 10 from by decide), if_neg (show ¬ (18 : Int32) = 11 from by decide), if_neg (show ¬ (18 : Int32) = 12 from by decide), if_neg (show ¬ (18 : Int32) = 13 from by decide), if_neg (show ¬ (18 : Int32) = 14 from by decide), if_neg (show ¬ (18 : Int32) = 15 from by decide), if_neg (show ¬ (18 : Int32) = 16 from by decide), if_neg (show ¬ (18 : Int32) = 17 from by decide), if_pos (show (18 : Int32) = 18 from rfl), hF.2.1]
    · unfold f_X9_count
      rw [eLet, show nI 18 = (18 : Int32) from rfl, if_neg (show ¬ ((18 : Int32).toInt < 0 ∨ 20 < (18 : Int32).toInt) from by decide), if_neg (show ¬ (18 : Int32) = 0 from by decide), if_neg (show ¬ (18 : Int32) = 1 from by decide), if_neg (show ¬ (18 : Int32) = 2 from by decide), if_neg (show ¬ (18 : Int32) = 3 from by decide), if_neg (show ¬ (18 : Int32) = 4 from by decide), if_neg (show ¬ (18 : Int32) = 5 from by decide), if_neg (show ¬ (18 : Int32) = 6 from by decide), if_neg (show ¬ (18 : Int32) = 7 from by decide), if_neg (show ¬ (18 : Int32) = 8 from by decide), if_neg (show ¬ (18 : Int32) = 9 from by decide), if_neg (show ¬ (18 : Int32) = 10 from by decide), if_neg (show ¬ (18 : Int32) = 11 from by decide), if_neg (show ¬ (18 : Int32) = 12 from by decide), if_neg (show ¬ (18 : Int32) = 13 from by decide), if_neg (show ¬ (18 : Int32) = 14 from by decide), if_neg (show ¬ (18 : Int32) = 15 from by decide), if_neg (show ¬ (18 : Int32) = 16 from by decide), if_neg (show ¬ (18 : Int32) = 17 from by decide), if_pos (show (18 : Int32) = 18 from rfl), gz4, show (sI M 0 0).2.1 9 4 = _ from hF.1]
  · refine ⟨M.2.1 9 5, sI M 0 0, ?_, ?_, EqM.told M 0⟩
    · unfold f_X8_count
      rw [show nI 19 = (19 : Int32) from rfl, if_neg (show ¬ ((19 : Int32).toInt < 0 ∨ 20 < (19 : Int32).toInt) from by decide), if_neg (show ¬ (19 : Int32) = 0 from by decide), if_neg (show ¬ (19 : Int32) = 1 from by decide), if_neg (show ¬ (19 : Int32) = 2 from by decide), if_neg (show ¬ (19 : Int32) = 3 from by decide), if_neg (show ¬ (19 : Int32) = 4 from by decide), if_neg (show ¬ (19 : Int32) = 5 from by decide), if_neg (show ¬ (19 : Int32) = 6 from by decide), if_neg (show ¬ (19 : Int32) = 7 from by decide), if_neg (show ¬ (19 : Int32) = 8 from by decide), if_neg (show ¬ (19 : Int32) = 9 from by decide), if_neg (show ¬ (19 : Int32) = 10 from by decide), if_neg (show ¬ (19 : Int32) = 11 from by decide), if_neg (show ¬ (19 : Int32) = 12 from by decide), if_neg (show ¬ (19 : Int32) = 13 from by decide), if_neg (show ¬ (19 : Int32) = 14 from by decide), if_neg (show ¬ (19 : Int32) = 15 from by decide), if_neg (show ¬ (19 : Int32) = 16 from by decide), if_neg (show ¬ (19 : Int32) = 17 from by decide), if_neg (show ¬ (19 : Int32) = 18 from by decide), if_pos (show (19 : Int32) = 19 from rfl), hR.1.1.2.2.2.2.2]
    · unfold f_X9_count
      rw [eLet, show nI 19 = (19 : Int32) from rfl, if_neg (show ¬ ((19 : Int32).toInt < 0 ∨ 20 < (19 : Int32).toInt) from by decide), if_neg (show ¬ (19 : Int32) = 0 from by decide), if_neg (show ¬ (19 : Int32) = 1 from by decide), if_neg (show ¬ (19 : Int32) = 2 from by decide), if_neg (show ¬ (19 : Int32) = 3 from by decide), if_neg (show ¬ (19 : Int32) = 4 from by decide), if_neg (show ¬ (19 : Int32) = 5 from by decide), if_neg (show ¬ (19 : Int32) = 6 from by decide), if_neg (show ¬ (19 : Int32) = 7 from by decide), if_neg (show ¬ (19 : Int32) = 8 from by decide), if_neg (show ¬ (19 : Int32) = 9 from by decide), if_neg (show ¬ (19 : Int32) = 10 from by decide), if_neg (show ¬ (19 : Int32) = 11 from by decide), if_neg (show ¬ (19 : Int32) = 12 from by decide), if_neg (show ¬ (19 : Int32) = 13 from by decide), if_neg (show ¬ (19 : Int32) = 14 from by decide), if_neg (show ¬ (19 : Int32) = 15 from by decide), if_neg (show ¬ (19 : Int32) = 16 from by decide), if_neg (show ¬ (19 : Int32) = 17 from by decide), if_neg (show ¬ (19 : Int32) = 18 from by decide), if_pos (show (19 : Int32) = 19 from rfl), gz5]; rfl
  · refine ⟨M.1 15, sI M 0 0, ?_, ?_, EqM.told M 0⟩
    · unfold f_X8_count
      rw [show nI 20 = (20 : Int32) from rfl, if_neg (show ¬ ((20 : Int32).toInt < 0 ∨ 20 < (20 : Int32).toInt) from by decide), if_neg (show ¬ (20 : Int32) = 0 from by decide), if_neg (show ¬ (20 : Int32) = 1 from by decide), if_neg (show ¬ (20 : Int32) = 2 from by decide), if_neg (show ¬ (20 : Int32) = 3 from by decide), if_neg (show ¬ (20 : Int32) = 4 from by decide), if_neg (show ¬ (20 : Int32) = 5 from by decide), if_neg (show ¬ (20 : Int32) = 6 from by decide), if_neg (show ¬ (20 : Int32) = 7 from by decide), if_neg (show ¬ (20 : Int32) = 8 from by decide), if_neg (show ¬ (20 : Int32) = 9 from by decide), if_neg (show ¬ (20 : Int32) = 10 from by decide), if_neg (show ¬ (20 : Int32) = 11 from by decide), if_neg (show ¬ (20 : Int32) = 12 from by decide), if_neg (show ¬ (20 : Int32) = 13 from by decide), if_neg (show ¬ (20 : Int32) = 14 from by decide), if_neg (show ¬ (20 : Int32) = 15 from by decide), if_neg (show ¬ (20 : Int32) = 16 from by decide), if_neg (show ¬ (20 : Int32) = 17 from by decide), if_neg (show ¬ (20 : Int32) = 18 from by decide), if_neg (show ¬ (20 : Int32) = 19 from by decide), hpa]
    · unfold f_X9_count
      rw [eLet, show nI 20 = (20 : Int32) from rfl, if_neg (show ¬ ((20 : Int32).toInt < 0 ∨ 20 < (20 : Int32).toInt) from by decide), if_neg (show ¬ (20 : Int32) = 0 from by decide), if_neg (show ¬ (20 : Int32) = 1 from by decide), if_neg (show ¬ (20 : Int32) = 2 from by decide), if_neg (show ¬ (20 : Int32) = 3 from by decide), if_neg (show ¬ (20 : Int32) = 4 from by decide), if_neg (show ¬ (20 : Int32) = 5 from by decide), if_neg (show ¬ (20 : Int32) = 6 from by decide), if_neg (show ¬ (20 : Int32) = 7 from by decide), if_neg (show ¬ (20 : Int32) = 8 from by decide), if_neg (show ¬ (20 : Int32) = 9 from by decide), if_neg (show ¬ (20 : Int32) = 10 from by decide), if_neg (show ¬ (20 : Int32) = 11 from by decide), if_neg (show ¬ (20 : Int32) = 12 from by decide), if_neg (show ¬ (20 : Int32) = 13 from by decide), if_neg (show ¬ (20 : Int32) = 14 from by decide), if_neg (show ¬ (20 : Int32) = 15 from by decide), if_neg (show ¬ (20 : Int32) = 16 from by decide), if_neg (show ¬ (20 : Int32) = 17 from by decide), if_neg (show ¬ (20 : Int32) = 18 from by decide), if_neg (show ¬ (20 : Int32) = 19 from by decide)]; rfl
theorem lq_longestFree (hU : Ru P NP E Bs F Pt Ap ru M) (hRR : RR P NP D T LC CC FC no (M.2.1 9)) (hn : 100 < n) : LQ M (f_X8_longestFree n sv x no) (f_X9_longestFree n M) := by
  refine ⟨_, sI M 0 0, ?_, m_longestFree hU.2.1.1 hRR.1.P64 hn, EqM.told M 0⟩
  unfold f_X8_longestFree
  rw [c_longestRow hRR.1 hn, ebnd]
theorem lq_nextHearing (hU : Ru P NP E Bs F Pt Ap ru M) (hRR : RR P NP D T LC CC FC no (M.2.1 9)) : LQ M (f_X8_nextHearing n sv x ru no) (f_X9_nextHearing n M) := by
  have hT := hRR.1.time
  refine ⟨if nxt T E ≤ 2000 then nI (nxt T E) else -1, sI M 0 0, ?_, ?_, EqM.told M 0⟩
  · unfold f_X8_nextHearing
    rw [hT.2.1, c_next hU hT.2.2, ebnd]
  · unfold f_X9_nextHearing
    rw [eLet, m_next (M := sI M 0 0) (ru := ru) (hU.fr fun j h1 _ => sI_o (by omega)) hT.2.2 hT.1, ebnd]
theorem lq_shortage (hU : Ru P NP E Bs F Pt Ap ru M) (hRR : RR P NP D T LC CC FC no (M.2.1 9)) (hn : 100 < n) : LQ M (f_X8_shortage n sv x no) (f_X9_shortage n M) := by
  refine ⟨_, sI M 0 0, ?_, m_shortage hRR.1 hU.2.1.1 hn, EqM.told M 0⟩
  unfold f_X8_shortage
  rw [c_waitingPages hRR.1 hn, ebnd, hRR.1.1.2.2.1]
theorem lq_overdue (hU : Ru P NP E Bs F Pt Ap ru M) (hRR : RR P NP D T LC CC FC no (M.2.1 9)) (hn : 100 < n) : LQ M (f_X8_overdue n sv x no) (f_X9_overdue n M) := by
  refine ⟨nI (bp (M.2.1 9) P LC), sI M 0 0, ?_, ?_, EqM.told M 0⟩
  · unfold f_X8_overdue
    rw [c_brokenPages hRR.1 hRR.1.P64 hn, ebnd]
  · unfold f_X9_overdue
    rw [eLet, m_brokenPages (M := sI M 0 0) hU.2.1.1 hRR.1.P64 hn hRR.1.mloans hRR.1.L80, ebnd]
    rfl
theorem lq_firstBroken (hU : Ru P NP E Bs F Pt Ap ru M) (hRR : RR P NP D T LC CC FC no (M.2.1 9)) (hn : 100 < n) : LQ M (f_X8_firstBroken n sv x no) (f_X9_firstBroken n M) := by
  refine ⟨toI (eb (M.2.1 9) P LC), sI M 0 0, ?_, ?_, EqM.told M 0⟩
  · unfold f_X8_firstBroken
    rw [c_earliest hRR.1 hRR.1.P64 hn, ebnd]
  · unfold f_X9_firstBroken
    rw [eLet, m_earliest (M := sI M 0 0) hU.2.1.1 hRR.1.P64 hn hRR.1.mloans hRR.1.L80, ebnd]
    rfl
theorem lq_worst (hU : Ru P NP E Bs F Pt Ap ru M) (hRR : RR P NP D T LC CC FC no (M.2.1 9)) (hn : 100 < n) : LQ M (f_X8_worst n sv x ru no) (f_X9_worst n M) := by
  refine ⟨_, sI M 0 0, ?_, m_worst hU hn, EqM.told M 0⟩
  unfold f_X8_worst
  rw [hU.1.2.1, c_worst hRR.1 hU.2.2.2.2.1 hn, ebnd]
theorem lq_errorCode (h : rd.1 3 = M.1 31) : LQ M (f_X8_errorCode n sv x rd) (f_X9_errorCode n M) := ⟨M.1 31, sI M 0 0, congrArg some h, rfl, EqM.told M 0⟩
theorem lq_errorOffset (h : rd.1 4 = M.1 32) : LQ M (f_X8_errorOffset n sv x rd) (f_X9_errorOffset n M) := ⟨M.1 32, sI M 0 0, congrArg some h, rfl, EqM.told M 0⟩
theorem nI_255 {b : Nat} (h : b < 256) : nI b &&& (255 : Int32) = nI b := by
  have k : nI b &&& (255 : Int32) = nI (b % 2 ^ 8) := pk_andN (by omega) 8 (by decide)
  rw [k, Nat.mod_eq_of_lt h]
theorem lq_outputByte (hO : OuR ou M) (v : Int32) : LQ M (f_X8_outputByte n sv x 1024 ou v) (f_X9_outputByte n M v) := by
  obtain ⟨k, hk, h1, h2, h3⟩ := hO
  have e1 : ((nI k).toInt64 - (1 : Int64)) = (nI k - 1).toInt64 := by
    have a1 : ((nI k).toInt64 - (1 : Int64)).toInt = (nI k).toInt - 1 := by
      rw [fb_subL (by rw [Int32.toInt_toInt64, nI_toInt (by omega), show (1 : Int64).toInt = 1 from by decide]; omega) (by rw [Int32.toInt_toInt64, nI_toInt (by omega), show (1 : Int64).toInt = 1 from by decide]; omega), Int32.toInt_toInt64, show (1 : Int64).toInt = 1 from by decide]
    rw [fa_eq64, a1, Int32.toInt_toInt64, show (nI k - 1 : Int32).toInt = (k : Int) - 1 from pk_sub_toInt (b := 1) (by omega) (by decide), nI_toInt (by omega)]
  have hm : f_X9_outputByte n M v = if vb v k then gI 1000 v (Let ((sI M 0 0).2.1 39 v.toNatClampNeg) (fun x_3 : Int32 => some (sI M 0 0, x_3))) else some (sI M 0 0, (-1 : Int32)) := by
    unfold f_X9_outputByte
    rw [eLet, show (sI M 0 0).1 40 = nI k from h2, e1, in_pred v (by omega), ebnd, ifz]
  have hc : f_X8_outputByte n sv x 1024 ou v = if vb v k then gI 1024 v (Let (ou.2.1 0 v.toNatClampNeg) (fun x_1 : Int32 => some (x_1 &&& (255 : Int32)))) else some (-1 : Int32) := by
    unfold f_X8_outputByte f_X1_at
    rw [h1]
    by_cases q : v < 0
    · rw [if_pos q, ebnd]
      unfold vb
      rw [decide_eq_false (Int32.not_le.mpr q)]
      rfl
    · rw [if_neg q]
      by_cases q2 : nI k ≤ v
      · rw [if_pos q2, ebnd]
        unfold vb
        rw [decide_eq_false (Int32.not_lt.mpr q2), Bool.and_false]
        rfl
      · rw [if_neg q2]
        have hv : vb v k = true := by
          unfold vb
          rw [decide_eq_true (Int32.not_lt.mp q), decide_eq_true (Int32.not_le.mp q2)]
          rfl
        obtain ⟨j, hj, rfl⟩ := vb_ok (by omega) hv
        rw [if_neg (show ¬ Int32.ofNat 1024 ≤ nI j from nI_ge (a := j) (b := 1024) (by omega) (by decide)), hv, if_pos rfl, egN (by omega) (by decide), eLet, ebnd]
  rw [hc, hm]
  cases hv : vb v k with
  | false => exact ⟨-1, sI M 0 0, rfl, rfl, EqM.told M 0⟩
  | true =>
    obtain ⟨j, hj, rfl⟩ := vb_ok (by omega) hv
    obtain ⟨b, hb, b1, b2⟩ := h3 j hj
    refine ⟨nI b, sI M 0 0, ?_, ?_, EqM.told M 0⟩
    · rw [if_pos rfl, egN (by omega) (by decide), eLet, nI_clamp (by omega), b1, nI_255 (by omega)]
    · rw [if_pos rfl, egN (by omega) (by decide), eLet, nI_clamp (by omega), show (sI M 0 0).2.1 39 j = nI b from b2]
/-! the two means -/
theorem lts_nI (hR : R0 P NP D K T LC CC FC no (M.2.1 9)) (hD : D ≤ 100000) : ∃ S, S < 2 ^ 31 ∧ lts (M.2.1 9) P LC = nI S := by
  have h80 := hR.L80
  have hT := hR.time
  refine ⟨fb_sm (fun l => if bk (M.2.1 9) P l then T - (M.2.1 9 (58 + 6 * l + 1)).toInt.toNat else 0) LC, ?_, su_nI fun l hl => ?_⟩
  · have h1 : fb_sm (fun l => if bk (M.2.1 9) P l then T - (M.2.1 9 (58 + 6 * l + 1)).toInt.toNat else 0) LC ≤ LC * 2000 := fb_sm_bound fun l _ => by split <;> omega
    have h2 : LC * 2000 ≤ 80 * 2000 := Nat.mul_le_mul h80 (Nat.le_refl _)
    omega
  · obtain ⟨_, d, hd, hdo⟩ := hR.2.2.2.2.2.1 l hl
    cases hb : bk (M.2.1 9) P l with
    | false => rfl
    | true =>
      unfold bk at hb
      have h1 := of_decide_eq_true (Bool.and_eq_true_iff.mp hb).1
      rw [hdo, hT.1, nI_ltI (by omega) (by omega)] at h1
      rw [if_pos rfl, if_pos rfl, hdo, hT.1, pk_sub (by omega), nI_toInt (by omega), Int.toNat_natCast]
theorem lq_meanLate (hU : Ru P NP E Bs F Pt Ap ru M) (hRR : RR P NP D T LC CC FC no (M.2.1 9)) (hn : 100 < n) (hD : D ≤ 100000) : ∃ r M', f_X8_meanLate n sv x no = some r ∧ f_X9_meanLate n M = some (M', r) ∧ EqM M M' := by
  have hR := hRR.1
  have h80 := hR.L80
  have h64 := hR.P64
  obtain ⟨S, hS, hS2⟩ := lts_nI hR hD
  have oall : ∀ l, ofp (M.2.1 9) (-1) l = true := fun l => by
    unfold ofp
    rw [decide_eq_true rfl, Bool.true_or]
  have hbr : fb_ct (fun l => bk (M.2.1 9) P l && ofp (M.2.1 9) (-1) l) LC = nbk (M.2.1 9) P LC := fb_ct_cong fun l _ => by rw [oall, Bool.and_true]
  have hle : nbk (M.2.1 9) P LC ≤ LC := fb_ct_le _ _
  unfold f_X8_meanLate
  rw [c_brokenLoans hR h64 hn, ebnd, hbr, m_meanLate_loop hR hU.2.1.1 hn, c_lateness hR hn, ebnd, hS2]
  unfold j_X9_meanLate_59
  by_cases h0 : nbk (M.2.1 9) P LC = 0
  · rw [h0]
    exact ⟨0, sI M 0 0, rfl, rfl, EqM.told M 0⟩
  · rw [if_neg (fun z => h0 ((nI_eq0 (by omega)).mp z)), if_neg (fun z => h0 ((nI_eq0 (by omega)).mp z)), noNaN64 hS (by omega) (by omega), noNaN64 hS (by omega) (by omega)]
    exact ⟨_, sI M 0 0, rfl, rfl, EqM.told M 0⟩
theorem noNaNw : ∀ a : Fin 61, ∀ b : Fin 61, b.val ≠ 0 → (FP.f2d (FP.fdiv (FP.i2f (nI a.val)) (FP.i2f (nI b.val)))) &&& 0x7fffffffffffffff ≤ 0x7ff0000000000000 := by decide +kernel
theorem lq_metShare (hU : Ru P NP E Bs F Pt Ap ru M) (hRR : RR P NP D T LC CC FC no (M.2.1 9)) (hn : 100 < n) : ∃ r M', f_X8_metShare n sv x no = some r ∧ f_X9_metShare n M = some (M', r) ∧ EqM M M' ∧ (∀ {β : Type} (o : Option β), nN64 (FP.f2d r) o = o) := by
  have hR := hRR.1
  have h60 := hR.C60
  have h8 := hR.2.2.2.2.2.2.2.1.1
  have h9 := hR.2.2.2.2.2.2.2.1.2.1
  have hs : stc (M.2.1 9) 1 CC + stc (M.2.1 9) 2 CC ≤ CC := by
    unfold stc
    rw [← fb_ct_or fun k _ h => by
      have h1 := of_decide_eq_true h.1
      have h2 := of_decide_eq_true h.2
      rw [h1] at h2
      exact absurd h2 (by decide)]
    exact fb_ct_le _ _
  unfold f_X8_metShare f_X9_metShare
  rw [c_claimsThat hR hn, ebnd, c_claimsThat hR hn, ebnd, clm_all, clm_all, eLet, eLet, gz8, gz9, show (sI M 0 0).2.1 9 8 = nI (stc (M.2.1 9) 1 CC) from h8, show (sI M 0 0).2.1 9 9 = nI (stc (M.2.1 9) 2 CC) from h9, eLet, nI_add, gz8, show (sI M 0 0).2.1 9 8 = nI (stc (M.2.1 9) 1 CC) from h8]
  generalize stc (M.2.1 9) 1 CC = a at *
  generalize stc (M.2.1 9) 2 CC = b at *
  by_cases h0 : a + b = 0
  · rw [h0]
    exact ⟨0, sI M 0 0, rfl, rfl, EqM.told M 0, fun o => if_pos (by decide +kernel)⟩
  · have k1 : ∀ {β : Type} (o : Option β), nN32 (FP.fdiv (FP.i2f (nI a)) (FP.i2f (nI (a + b)))) o = o := fun o => if_pos (noNaN32 ⟨a, by omega⟩ ⟨a + b, by omega⟩ h0)
    have k2 : ∀ {β : Type} (o : Option β), nN64 (FP.f2d (FP.fdiv (FP.i2f (nI a)) (FP.i2f (nI (a + b))))) o = o := fun o => if_pos (noNaNw ⟨a, by omega⟩ ⟨a + b, by omega⟩ h0)
    rw [if_neg (fun z => h0 ((nI_eq0 (by omega)).mp z)), if_neg (fun z => h0 ((nI_eq0 (by omega)).mp z)), k1, k1]
    exact ⟨_, sI M 0 0, rfl, rfl, EqM.told M 0, k2⟩
end FACE3
