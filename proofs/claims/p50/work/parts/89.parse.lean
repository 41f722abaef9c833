/-! the law's text is read: its processes are counted, its rules and its court begin -/
section PARSE9
variable {n w : Nat} {inp rd M rr fo : OS} {T A : List Nat}
theorem text_step {rd1 rr1 fo1 rd2 : OS} {N l : Nat} (hl : l < 2 ^ 30) (hk : rd.1 5 = nI 4) (h1 : f_X4_readStatement n rd 600 inp rr fo = some (rd1, rr1, fo1, 1)) (h2 : f_X4_readSemicolon n rd1 600 inp = some (rd2, 1)) : l_X4_readText_41 n 600 inp (N + 1) rd rr fo (nI (l + 1)) = l_X4_readText_41 n 600 inp N rd2 rr1 fo1 (nI l) := by
  show s_X4_readText_41 n 600 inp _ rd rr fo (nI (l + 1)) = _
  unfold s_X4_readText_41
  rw [if_neg (nI_nle (by omega) (by omega)), hk, if_neg (show ¬ nI 4 = (0 : Int32) from by decide), h1, ebnd4, if_neg (show ¬ (1 : Int32) = 0 from by decide), h2, ebnd2, if_neg (show ¬ (1 : Int32) = 0 from by decide), eLet, pk_m1]
theorem text_end {N l : Nat} (hk : rd.1 5 = 0) : l_X4_readText_41 n 600 inp (N + 1) rd rr fo (nI l) = some (rd, rr, fo, 1) := by
  show s_X4_readText_41 n 600 inp _ rd rr fo (nI l) = _
  unfold s_X4_readText_41
  by_cases c : nI l ≤ 0
  · rw [if_pos c]
  · rw [if_neg c, if_pos hk]
/-- where the reader stands: before one more process, or before the rules -/
def tk9 (d : Nat) : List Nat := if d = 0 then Wl 3 else Wl 2
def tw9 (d : Nat) : Nat := if d = 0 then 3 else 2
theorem procR_head (d p : Nat) {X3 : List Nat} (hX : kdR X3 ≠ 4) : ∃ R2, procR p d (Wl 3 ++ X3) = tk9 d ++ R2 ∧ Tok (tk9 d) R2 4 (tw9 d) := by
  cases d with
  | zero => exact ⟨X3, rfl, tokW (by decide) (by decide) hX⟩
  | succ d => exact ⟨[32] ++ ([112 + p] ++ ([59] ++ procR (p + 1) d (Wl 3 ++ X3))), rfl, tokW (by decide) (by decide) (by rw [kdR_c]; decide)⟩
theorem procs9 (hT : Tx (tx T) T.length inp M) (hn : 700 < n) {q : Nat} {X3 : List Nat} (hq : q ≤ 8) (hX : kdR X3 ≠ 4) : ∀ (d p N l : Nat) (rd rr : OS) (A : List Nat), p + d = q → l + d < 2 ^ 30 → T = A ++ procR p d (Wl 3 ++ X3) → (∃ R, Rd9 A (tk9 d) R 4 (tw9 d) rd) → Nm9 p rr → ∃ rd' rr' A', l_X4_readText_41 n 600 inp (N + d) rd rr fo (nI (l + d)) = l_X4_readText_41 n 600 inp N rd' rr' fo (nI l) ∧ T = A' ++ (Wl 3 ++ X3) ∧ (∃ R, Rd9 A' (Wl 3) R 4 3 rd') ∧ rd'.1 11 = rd.1 11 ∧ Nm9 q rr' ∧ ∀ j, j ≠ 1 → rr'.1 j = rr.1 j
  | 0, p, N, l, rd, rr, A, hp, hl, e, hd, hN => ⟨rd, rr, A, rfl, e, hd, rfl, by rw [← hp]; exact hN, fun _ _ => rfl⟩
  | d + 1, p, N, l, rd, rr, A, hp, hl, e, hd, hN => by
    obtain ⟨R, hd⟩ := hd
    obtain ⟨R2, r1, r2⟩ := procR_head d (p + 1) hX
    obtain ⟨rd1, rd2, rr2, A2, s1, s2, s3, s4, s5, s6, s7⟩ := proc9 (fo := fo) (p := p) (tk2 := tk9 d) (R2 := R2) (R := R) hT hn (by omega) (by rw [e, ← r1]; rfl) hd hN r2
    obtain ⟨rd', rr', A', t1, t2, t3, t4, t5, t6⟩ := procs9 hT hn hq hX d (p + 1) N l rd2 rr2 A2 (by omega) (by omega) (by rw [s3, r1]) ⟨R2, s4⟩ s6
    refine ⟨rd', rr', A', ?_, t2, t3, t4.trans s5, t5, fun j hj => (t6 j hj).trans (s7 j hj)⟩
    rw [← t1]
    exact text_step (N := N + d) (l := l + d) (by omega) hd.2.2.1 s1 s2
theorem RR.moreN {P T D LC CC FC : Nat} {c : OS} {m : Nat → Int32} (h : RR P 0 D T LC CC FC c m) : ∀ q, RR P q D T LC CC FC c m
  | 0 => h
  | q + 1 => ⟨(RR.moreN h q).1.moreN, h.2⟩
theorem inv_new {P q v : Nat} (hP : P ≤ 64) (hq : q ≤ 8) : Inv P q 0 0 0 (upd row0 1 (nI v)) := by
  have o : ∀ i, i ≠ 1 → upd row0 1 (nI v) i = row0 i := fun i hi => upd_n hi
  refine ⟨by omega, fun l _ hl => ?_, fun l hl => absurd hl (by omega), ⟨?_, ?_⟩, fun a ha => absurd ha (by omega), fun p hp => ⟨0, by omega, ?_⟩⟩
  · refine fb_ct_zero.mpr fun k hk => decide_eq_false fun z => ?_
    rw [o _ (by omega), show row0 (538 + k) = -1 from if_pos (by omega)] at z
    exact nI_m1 l (by omega) z.symm
  · rw [o 4 (by omega), row0_z (by omega)]
    rfl
  · rw [su_zero (a := 0) (b := q) (by omega) fun p _ hp => by rw [o _ (by omega), row0_z (by omega)]]
    rfl
  · rw [o _ (by omega), row0_z (by omega)]
    rfl
/-- the whole text -/
theorem text_ok (hT : Tx (tx T) T.length inp M) (hn : 700 < n) {P q e0 e1 e2 e3 e4 : Nat} {o : Int32} (e : T = setupL P q e0 e1 e2 e3 e4 o) (hP1 : 4 ≤ P) (hP2 : P ≤ 64) (hq : q ≤ 8) (h0 : 1 ≤ e0) (g0 : e0 ≤ 9) (h1 : 1 ≤ e1) (g1 : e1 ≤ 100) (h2 : 1 ≤ e2) (g2 : e2 ≤ 60) (h3 : 1 ≤ e3) (g3 : e3 ≤ 9) (g4 : e4 ≤ 99) (hin : inp.1 1 = nI T.length) : ∃ rd' rr' fo' v, f_X4_readText n rd 600 inp rr fo = some (rd', rr', fo', 1) ∧ (rr'.1 0 = nI P ∧ rr'.1 1 = nI q ∧ rr'.1 2 = nI e0 ∧ rr'.1 3 = nI e1 ∧ rr'.1 4 = nI e2 ∧ rr'.1 5 = nI e3 ∧ rr'.1 6 = nI e4) ∧ v ≤ 2 ∧ RR P q 2100 0 0 0 0 fo' (upd row0 1 (nI v)) := by
  have hlen : q + 7 ≤ T.length := by
    obtain ⟨s0, s1, s2, s3, s4, s5, s6, -⟩ := sl_len
    rw [e]
    unfold setupL bodyL headL
    simp only [List.length_append, procL_len, s0, s2, s3, s4, s5, s6, (ordX_in o).2]
    omega
  have h600 := hT.1
  rw [setup_is] at e
  obtain ⟨-, w2⟩ := ordW_ok o
  generalize ordW o = ow at e w2
  obtain ⟨R2, r1, r2⟩ := procR_head q 0 (X3 := [32] ++ (sx_num e0 ++ ([59] ++ (Rset 1 e1 (Rset 2 e2 (Rset 3 e3 (Rset 4 e4 (Word ow)))))))) (by rw [kdR_c]; decide)
  obtain ⟨ra, rb, rr1, fo1, A1, p1, p2, p3, p4, p5, p6, p7⟩ := pages9 (rd := sI (sI (sI (sI rd 3 0) 4 (-1)) 11 0) 7 0) (rr := rr) (fo := fo) (P := P) (tk2 := tk9 q) (R2 := R2) hT hn (by rw [e, ← r1]; rfl) hP1 hP2 sI_s r2
  have p5 : rb.1 11 = nI 0 := p5.trans (by rw [sI_o (by decide)]; exact sI_s)
  obtain ⟨L, hL⟩ : ∃ L, T.length = L + 1 + 1 + 1 + 1 + 1 + 1 + q := ⟨T.length - q - 6, by omega⟩
  obtain ⟨N, hN⟩ : ∃ N, n = N + 1 + 1 + 1 + 1 + 1 + 1 + 1 + q := ⟨n - q - 7, by omega⟩
  obtain ⟨rc, rr2, A2, q1, q2, ⟨R3, q3⟩, q4, q5, q6⟩ := procs9 (fo := fo1) hT hn hq (X3 := [32] ++ (sx_num e0 ++ ([59] ++ (Rset 1 e1 (Rset 2 e2 (Rset 3 e3 (Rset 4 e4 (Word ow)))))))) (by rw [kdR_c]; decide) q 0 (N + 1 + 1 + 1 + 1 + 1 + 1 + 1) (L + 1 + 1 + 1 + 1 + 1 + 1) rb rr1 A1 (by omega) (by omega) (by rw [p3, r1]) ⟨_, p4⟩ ⟨p6.2.1, fun a ha => absurd ha (by omega)⟩
  obtain ⟨sa, sb, A3, a1, a2, a3, a4, a5⟩ := set9 (rr := rr2) (fo := fo1) (i := 0) (v := e0) (w := 0) (tk2 := Wl 4) (R2 := [32] ++ (sx_num e1 ++ ([59] ++ (Rset 2 e2 (Rset 3 e3 (Rset 4 e4 (Word ow))))))) (k2 := 4) (w2 := 4) hT hn q2 (by decide) (by omega) (by show 1 ≤ e0; omega) (by show e0 ≤ 50; omega) q3 (by decide) (q4.trans p5) (by decide) (tokW (by decide) (by decide) (by rw [kdR_c]; decide))
  obtain ⟨sc, sd, A4, b1, b2, b3, b4, b5⟩ := set9 (rr := sI rr2 2 (nI e0)) (fo := fo1) (i := 1) (v := e1) (w := 0 ||| 2 ^ 0) (tk2 := Wl 5) (R2 := [32] ++ (sx_num e2 ++ ([59] ++ (Rset 3 e3 (Rset 4 e4 (Word ow)))))) (k2 := 4) (w2 := 5) hT hn a3 (by decide) (by omega) (by show 1 ≤ e1; omega) (by show e1 ≤ 100; omega) a4 (by decide) a5 (by decide) (tokW (by decide) (by decide) (by rw [kdR_c]; decide))
  obtain ⟨se, sf, A5, c1, c2, c3, c4, c5⟩ := set9 (rr := sI (sI rr2 2 (nI e0)) 3 (nI e1)) (fo := fo1) (i := 2) (v := e2) (w := (0 ||| 2 ^ 0) ||| 2 ^ 1) (tk2 := Wl 6) (R2 := [32] ++ (sx_num e3 ++ ([59] ++ (Rset 4 e4 (Word ow))))) (k2 := 4) (w2 := 6) hT hn b3 (by decide) (by omega) (by show 1 ≤ e2; omega) (by show e2 ≤ 99; omega) b4 (by decide) b5 (by decide) (tokW (by decide) (by decide) (by rw [kdR_c]; decide))
  obtain ⟨sg, sh, A6, d1, d2, d3, d4, d5⟩ := set9 (rr := sI (sI (sI rr2 2 (nI e0)) 3 (nI e1)) 4 (nI e2)) (fo := fo1) (i := 3) (v := e3) (w := ((0 ||| 2 ^ 0) ||| 2 ^ 1) ||| 2 ^ 2) (tk2 := Wl 7) (R2 := [32] ++ (sx_num e4 ++ ([59] ++ (Word ow)))) (k2 := 4) (w2 := 7) hT hn c3 (by decide) (by omega) (by show 1 ≤ e3; omega) (by show e3 ≤ 20; omega) c4 (by decide) c5 (by decide) (tokW (by decide) (by decide) (by rw [kdR_c]; decide))
  obtain ⟨si, sj, A7, f1, f2, f3, f4, f5⟩ := set9 (rr := sI (sI (sI (sI rr2 2 (nI e0)) 3 (nI e1)) 4 (nI e2)) 5 (nI e3)) (fo := fo1) (i := 4) (v := e4) (w := (((0 ||| 2 ^ 0) ||| 2 ^ 1) ||| 2 ^ 2) ||| 2 ^ 3) (tk2 := Wl 8) (R2 := [32] ++ (Wl ow ++ ([59] ++ []))) (k2 := 4) (w2 := 8) hT hn d3 (by decide) (by omega) (Nat.zero_le _) (by show e4 ≤ 99; omega) d4 (by decide) d5 (by decide) (tokW (by decide) (by decide) (by rw [kdR_c]; decide))
  obtain ⟨sk, sl, v, v2, k1, k2, k3⟩ := ord9 (rr := sI (sI (sI (sI (sI rr2 2 (nI e0)) 3 (nI e1)) 4 (nI e2)) 5 (nI e3)) 6 (nI e4)) (fo := fo1) (w := ((((0 ||| 2 ^ 0) ||| 2 ^ 1) ||| 2 ^ 2) ||| 2 ^ 3) ||| 2 ^ 4) hT hn (o := ow) f3 w2 f4 (by decide) f5 (by decide)
  refine ⟨sl, sI (sI (sI (sI (sI rr2 2 (nI e0)) 3 (nI e1)) 4 (nI e2)) 5 (nI e3)) 6 (nI e4), sI fo1 1 (nI v), v, ?_, ⟨?_, ?_, ?_, ?_, ?_, ?_, ?_⟩, v2, RR.order (p7.moreN q) v2⟩
  · unfold f_X4_readText
    rw [eLet, eLet, eLet, eLet, p1, ebnd, p2, ebnd4, if_neg (show ¬ (1 : Int32) = 0 from by decide), eLet, hin, hL]
    have hq1 : l_X4_readText_41 n 600 inp n rb rr1 fo1 (nI (L + 1 + 1 + 1 + 1 + 1 + 1 + q)) = _ := (congrArg (fun z => l_X4_readText_41 n 600 inp z rb rr1 fo1 (nI (L + 1 + 1 + 1 + 1 + 1 + 1 + q))) hN).trans q1
    rw [hq1, text_step (by omega) q3.2.2.1 a1 a2, text_step (by omega) a4.2.2.1 b1 b2, text_step (by omega) b4.2.2.1 c1 c2, text_step (by omega) c4.2.2.1 d1 d2, text_step (by omega) d4.2.2.1 f1 f2, text_step (by omega) f4.2.2.1 k1 k2]
    exact text_end k3
  · rw [sI_o (by decide), sI_o (by decide), sI_o (by decide), sI_o (by decide), sI_o (by decide), q6 0 (by decide)]
    exact p6.1
  · rw [sI_o (by decide), sI_o (by decide), sI_o (by decide), sI_o (by decide), sI_o (by decide)]
    exact q5.1
  · rw [sI_o (by decide), sI_o (by decide), sI_o (by decide), sI_o (by decide), sI_s]
  · rw [sI_o (by decide), sI_o (by decide), sI_o (by decide), sI_s]
  · rw [sI_o (by decide), sI_o (by decide), sI_s]
  · rw [sI_o (by decide), sI_s]
  · exact sI_s
/-- parse: what the law goes on with -/
theorem parse_ok (hT : Tx (tx T) T.length inp M) (hn : 700 < n) {P q e0 e1 e2 e3 e4 : Nat} {o : Int32} (e : T = setupL P q e0 e1 e2 e3 e4 o) (hP1 : 4 ≤ P) (hP2 : P ≤ 64) (hq : q ≤ 8) (h0 : 1 ≤ e0) (g0 : e0 ≤ 9) (h1 : 1 ≤ e1) (g1 : e1 ≤ 100) (h2 : 1 ≤ e2) (g2 : e2 ≤ 60) (h3 : 1 ≤ e3) (g3 : e3 ≤ 9) (g4 : e4 ≤ 99) (hin : inp.1 1 = nI T.length) (sv : Value) (x ru no fo rd rr : OS) (pa : PS) (hpa : PS0 0 0 pa) : ∃ th in2 ru2 no2 fo2 rd2 rr2 pa2, f_X8_parse n sv x 600 inp ru no fo rd rr pa = some (th, in2, ru2, no2, fo2, rd2, rr2, pa2, nI q) ∧ pa2.2 = pa.2 ∧ ∃ M2, Ru P q e0 e1 e2 e3 e4 ru2 M2 ∧ G50 P q 0 no2 pa2 M2 := by
  obtain ⟨rd', rr', fo', v, t1, ⟨u0, u1, u2, u3, u4, u5, u6⟩, v2, hR⟩ := text_ok (rd := rd) (rr := rr) (fo := fo) hT hn e hP1 hP2 hq h0 g0 h1 g1 h2 g2 h3 g3 g4 hin
  obtain ⟨ru2, c1, c2, c3⟩ := c_rcopy (n := n) ru rr'
  obtain ⟨no2, d1, d2⟩ := c_copy (n := n) no fo'
  obtain ⟨a1, a2, a3, a4, a5⟩ := hpa
  have j0 : ru2.1 0 = nI P := (c2 0 (by omega)).trans u0
  have j1 : ru2.1 1 = nI q := (c2 1 (by omega)).trans u1
  have j2 : ru2.1 2 = nI e0 := (c2 2 (by omega)).trans u2
  have j3 : ru2.1 3 = nI e1 := (c2 3 (by omega)).trans u3
  have j4 : ru2.1 4 = nI e2 := (c2 4 (by omega)).trans u4
  have j5 : ru2.1 5 = nI e3 := (c2 5 (by omega)).trans u5
  have j6 : ru2.1 6 = nI e4 := (c2 6 (by omega)).trans u6
  refine ⟨sI x 8 0, sI inp 1 0, ru2, no2, fo', rd', rr', pI pa 2 0, ?_, rfl, ((fun j => ru2.1 (j - 1)), (sA zOS 9 (upd row0 1 (nI v))).2), ⟨⟨j0, j1, j2, j3, j4, j5, j6⟩, ⟨j0, j1, j2, j3, j4, j5, j6⟩, by omega, by omega, by omega, by omega, by omega, by omega, by omega, by omega, by omega, by omega, by omega, by omega⟩, 0, 0, 0, 0, 0, 0, Nat.le_refl _, ?_, ?_, ?_⟩
  · unfold f_X8_parse
    rw [t1, ebnd4, eLet, if_neg (show ¬ (1 : Int32) = 0 from by decide), c1, ebnd, d1, ebnd]
    unfold f_X3_forget
    rw [eLet, ebnd, eLet, j1]
  · show RR P q 2100 0 0 0 0 no2 ((sA zOS 9 (upd row0 1 (nI v))).2.1 9)
    rw [sA_get]
    exact hR.cpy d2 fun _ _ => rfl
  · show Inv P q 0 0 0 ((sA zOS 9 (upd row0 1 (nI v))).2.1 9)
    rw [sA_get]
    exact inv_new hP2 hq
  · exact ⟨by omega, by omega, a3, rfl, a5⟩
end PARSE9
