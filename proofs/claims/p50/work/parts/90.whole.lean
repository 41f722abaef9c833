/-! the claim -/
theorem init_ok {n : Nat} (hn : 700 < n) : ∃ i8, f_X8_init n = some i8 := by
  obtain ⟨r, c1, -⟩ := c_rbegin (n := n) (4 : Int32) zOS
  obtain ⟨co, d1, -⟩ := c_begin (n := n) (P := 4) (by omega) hn zOS
  have d1 : f_X2_begin n zOS (4 : Int32) = some co := d1
  refine ⟨(r, co), ?_⟩
  unfold f_X8_init
  rw [c1, ebnd, d1, ebnd]
theorem whole_start {p : Program} {e : Env} {s : State} {m : MethodId} {below : List Frame} {meth : Method} {c : Code} (l : Launch) (hflags : l.flags = flags0) {b L : Nat} {xs : Nat → Int32} (hL : L ≤ 260) (C0 : lw_At p s m meth c b L xs) : W p l e room_1 s m #[Value.ref b] below meth c s.heap [] 0 0 (lw_Z below #[Value.ref b] s) (entryFrame m ([Value.ref b] : List Value).toArray 21) := by
  obtain ⟨i8, h8⟩ := init_ok (n := 20000) (by omega)
  obtain ⟨P, p1, p2, dP⟩ := draw_ok (n := 20000) (L := L) (xs := xs) (a := 6) (lo := 4) (hi := 64) (by omega) hL (by omega) (by omega)
  obtain ⟨q, q1, q2, dq⟩ := draw_ok (n := 20000) (L := L) (xs := xs) (a := 7) (lo := 1) (hi := 8) (by omega) hL (by omega) (by omega)
  obtain ⟨many, m1, m2, dm⟩ := draw_ok (n := 20000) (L := L) (xs := xs) (a := 8) (lo := 3) (hi := 22) (by omega) hL (by omega) (by omega)
  obtain ⟨e0, e01, e02, d0⟩ := draw_ok (n := 20000) (L := L) (xs := xs) (a := 0) (lo := 1) (hi := 9) (by omega) hL (by omega) (by omega)
  obtain ⟨e1, e11, e12, d1⟩ := draw_ok (n := 20000) (L := L) (xs := xs) (a := 1) (lo := 1) (hi := 100) (by omega) hL (by omega) (by omega)
  obtain ⟨e2, e21, e22, d2⟩ := draw_ok (n := 20000) (L := L) (xs := xs) (a := 2) (lo := 1) (hi := 60) (by omega) hL (by omega) (by omega)
  obtain ⟨e3, e31, e32, d3⟩ := draw_ok (n := 20000) (L := L) (xs := xs) (a := 3) (lo := 1) (hi := 9) (by omega) hL (by omega) (by omega)
  obtain ⟨e4, e41, e42, d4⟩ := draw_ok (n := 20000) (L := L) (xs := xs) (a := 4) (lo := 0) (hi := 99) (by omega) hL (by omega) (by omega)
  obtain ⟨o, o1, o2, d5⟩ := draw_ok (n := 20000) (L := L) (xs := xs) (a := 5) (lo := 0) (hi := 2) (by omega) hL (by omega) (by omega)
  obtain ⟨T, eT⟩ : ∃ T, T = setupL P q e0 e1 e2 e3 e4 (nI o) := ⟨_, rfl⟩
  have hlen : T.length ≤ 240 := by
    rw [eT]
    show (bodyL P q e0 e1 e2 e3 e4 ++ sLst (ordX (nI o))).length ≤ 240
    rw [List.length_append, (ordX_in (nI o)).2]
    have := bodyL_len (P := P) (q := q) (e0 := e0) (e1 := e1) (e2 := e2) (e3 := e3) (e4 := e4) q2
    omega
  have hsm : ∀ i, i < T.length → tx T i < 128 := fun i hi => by
    have h9 := small_text (o := nI o) (show P ≤ 100 by omega) q2 (show e0 ≤ 100 by omega) e12 (show e2 ≤ 100 by omega) (show e3 ≤ 100 by omega) (show e4 ≤ 100 by omega)
    rw [← eT] at h9
    refine h9 _ ?_
    unfold tx
    rw [List.getD_eq_getElem?_getD, List.getElem?_eq_getElem hi]
    exact List.getElem_mem _
  have hb : ∀ i, chB (tx T) T.length i < 128 := fun i => by
    unfold chB
    by_cases z : i < T.length
    · rw [if_pos z]
      exact hsm i z
    · rw [if_neg z]
      omega
  have hfd := feed9 (n := 20000) hb .null zOS
  obtain ⟨y, y1, y2, y3⟩ := hfd ((T.length + 19) / 20) (by omega)
  have hin : (sI y 1 (nI T.length)).1 1 = nI T.length := sI_s
  have hTx : Tx (tx T) T.length (sI y 1 (nI T.length)) ((fun _ => nI T.length), (fun _ i => by8 (tx T i)), zOS.2.2) := ⟨by omega, hin, rfl, fun i hi => ⟨by have := hsm i hi; omega, by
    show y.2.1 0 i = by8 (tx T i)
    rw [y3 i (by omega)]
    unfold chB
    rw [if_pos hi], rfl⟩⟩
  obtain ⟨th, in2, ru2, no2, fo2, rd2, rr2, pa2, r1, r2, M2, hU, hg⟩ := parse_ok (n := 20000) hTx (by omega) eT p1 p2 q2 e01 e02 e11 e12 e21 e22 e31 e32 e42 hin .null zOS i8.1 i8.2 zOS zRd zOS zPS ⟨by omega, by omega, rfl, rfl, Or.inr ⟨show 0 < 8 by omega, Nat.le_refl _, Nat.le_refl _⟩⟩
  have hacts := acts_ok (n := 20000) (L := L) (xs := xs) (sv := .null) (x := th) (many := 0) hU hg q1 (by omega) hL
  subst eT
  refine p50_go l hL C0 20000 i8 h8 P q e0 e1 e2 e3 e4 many (nI o) (by omega) q2 (by omega) (by omega) (by omega) (by omega) (by omega) m2 dP dq dm d0 d1 d2 d3 d4 d5 (sI y 1 (nI (setupL P q e0 e1 e2 e3 e4 (nI o)).length)) 1 (fun g hg9 => ?_) (fun y9 hy9 => ?_) th in2 ru2 no2 fo2 rd2 rr2 pa2 r1 (by rw [r2]; rfl) (fun i hi => ?_) (fun y9 hy9 => ?_)
  · obtain ⟨z, z1, -⟩ := hfd g (by omega)
    exact ⟨z, z1⟩
  · have ey : y9 = y := Option.some.inj (hy9.symm.trans y1)
    subst ey
    unfold f_X8_truncate
    rw [if_neg (nI_pos (by omega)), y2, if_pos (nI_le (by omega) (by omega)), eLet]
  · obtain ⟨z, z1, -⟩ := hacts i (by omega)
    exact ⟨z, z1⟩
  · obtain ⟨z, z1, M9, z2, z3⟩ := hacts many m2
    have ez : y9 = z := Option.some.inj (hy9.symm.trans z1)
    subst ez
    exact tail_ok (n := 20000) z2 (z3.mono (by omega)) (by omega) q1 hL
set_option maxHeartbeats 4000000 in
theorem lw_walk (l : Launch) (hflags : l.flags = flags0) (b : Addr) (xs : List Int32) : MetFree l x (headSpec (Jvm.Cond.code x code maxLocals ret :: tables_1) room_1) (lw_P b xs) (fun _ _ _ _ _ => True) lw_Q := by
  refine MetFree.of_bodyS (code := code) (maxLocals := maxLocals) (ret := ret) (by decide) ?_ ?_
  · intro args s m h hn
    obtain ⟨meth, c, h1, h2, h3, h4, h5, h6, -, -⟩ := Cond.code_spec hn (atoms_spec (ws := Jvm.Cond.code x code maxLocals ret :: tables_1) h _ List.mem_cons_self)
    exact ⟨meth, c, h1, h2, h3, h4, h5, h6⟩
  · intro p e s m args below meth c s₁ B hml0 hP _
    obtain ⟨rfl, hx, hbd, hgv⟩ := hP
    obtain ⟨scr, harrAt, hlist, hof, hsmall⟩ := hx
    obtain ⟨hcb, hkn, -, -⟩ := State.arrayAt?_spec harrAt
    have hown : s.vm.findClass R_law = some m.cls := findClass_of_methodNamed B.named
    have hts0 : ∀ c ∈ (Jvm.Cond.code x code maxLocals ret :: tables_1), c.before #[Value.ref b] s = true := atoms_spec (ws := Jvm.Cond.code x code maxLocals ret :: tables_1) B.pre
    have hts : ∀ w ∈ lw_tbl, w.before #[Value.ref b] s = true := k2_hts_sels lw_privs (fun w hw => hts0 w (List.mem_cons_of_mem _ hw)) lw_privs_ok
    have hml : c.maxLocals = 21 := B.maxLocals_eq (hts0 _ List.mem_cons_self)
    have X₀ : Stand p l e room_1 s m #[Value.ref b] below meth c s₁ [] 0 0 := Stand.of_body B
    have hh0 : s₁.heap = s.heap := by rw [B.state]; rfl
    have hsz : scr.slots.size = xs.length := by rw [← Array.length_toList, hlist, List.length_map]
    have hval : ∀ j : Nat, j < xs.length → scr.slots[j]? = some (.int (xs.getD j 0)) := fun j hj => by
      rw [← Array.getElem?_toList, hlist]
      simp [hj]
    have hbl : b < s.heap.size := (Array.getElem?_eq_some_iff.mp hcb).1
    have hX : va_X b xs.length (fun j => xs.getD j 0) s s.heap := ⟨scr, hcb, hof, hkn, hsz, hval⟩
    have K : W p l e room_1 s m #[Value.ref b] below meth c s₁.heap [] 0 0 (lw_Z below #[Value.ref b] s) (entryFrame m ([Value.ref b] : List Value).toArray 21) := by
      rw [hh0]
      exact whole_start l hflags hbd ⟨B.exec, B.bytes, B.returns, hml, hown, hts, hX, hbl, B.notSynchronized, hgv⟩
    obtain ⟨t, a1, o, b1, b2, b3⟩ := K s₁ rfl X₀
    exact ⟨t, o, a1, b1, b2, b3⟩
theorem lw_pre_spec {args : Array Value} {s : State} (h : (Jvm.Cond.and given_1 narrow_1).before args s = true) (hr : rest_1_c.before args s = true) : ∃ (b : Addr) (xs : List Int32), lw_P b xs args s := by
  have hs := flat_of_before _ h
  have hq := flat_of_before _ hr
  have hc : (Cond.count 1).before args s = true := hs _ (by decide +kernel)
  have harr : (Cond.arrayOf (.arg 0) .int).before args s = true := hs _ (by decide +kernel)
  have hle : (Cond.le (.length (.arg 0)) (.int 260)).before args s = true := hs _ (by decide +kernel)
  have hlen : (Cond.isInt (.length (.arg 0))).before args s = true := hq _ (by decide +kernel)
  have hall : (Cond.all (.arg 0) (.isInt (.elem (.arg 0) (.index 0)))).before args s = true := hq _ (by decide +kernel)
  obtain ⟨b, xs, hb, hx⟩ := State.ints_of_pre rfl harr hlen hall
  have hsm : xs.length < 2 ^ 31 := hx.choose_spec.2.2.2
  have hev : (Term.length (.arg 0)).eval args s none [] s = some (.int xs.length.toInt32) := hx.length_eval hb
  have hv := Cond.le_ints hev (show (Term.int 260).eval args s none [] s = some (.int 260) from rfl)
  have hd : xs.length.toInt32 ≤ 260 := by
    simpa [Cond.before, Cond.holds, hv] using hle
  have hN : xs.length ≤ 260 := (Int32.ofNat_le_ofNat hsm (by decide)).mp (show Int32.ofNat xs.length ≤ Int32.ofNat 260 from hd)
  exact ⟨b, xs, Cond.one_arg hc (show args[0]? = some (.ref b) from hb), hx, hN, h⟩
theorem lw_comes (l : Launch) (hflags : l.flags = flags0) : Comes l x (Jvm.Cond.code x code maxLocals ret :: tables_1) room_1 (fun tb e args s => Calls_1 tb e args s ∧ rest_1 tb e args s ∧ Pre_1 tb e args s)
    (fun _ _ args s o t => lw_Q args s o t) := by
  intro p e ha hc hk s m args below hf hfit hheap happ hpre
  obtain ⟨b, xs, hP⟩ := lw_pre_spec hpre.2.2 hpre.2.1
  obtain ⟨k, o, h1, h2, h3, hQ⟩ := lw_walk l hflags b xs p e ha hc hk s m args below hf ((Spec.applies_iff_loose hf).mp happ).1 hP trivial
  exact ⟨k, o, h1, h2, h3, hQ⟩
theorem lw_frame {s t : State} {o : Outcome} {args : Array Value} (h : Framed s o t [] 600086 7301442) :
    Framed s o t (fieldLocs frame_1_writes args s ++ arrayLocs frame_1_arrays args s ++ staticLocs frame_1_statics s) 600086 7301442 := h
theorem lw_limb (L : Cond) (hL : ∀ (args : Array Value) (s t : State), L.after args s (.returned (some (.int 1))) t = true) :
    ArmFor flags0 classFile x code maxLocals ret World_1 tables_1 room_1 Calls_1 rest_1 Pre_1
      (fun tb e a s o t => postC L tb e a s o t ∧ Framed s o t (fieldLocs frame_1_writes a s ++ arrayLocs frame_1_arrays a s ++ staticLocs frame_1_statics s) 600086 7301442) := by
  intro l hflags _ _ p e ha hc hk s m args below hf hfit hheap happ hpre
  obtain ⟨k, o, h1, h2, h3, rfl, hF⟩ := lw_comes l hflags p e ha hc hk s m args below hf hfit hheap happ hpre
  exact ⟨k, _, h1, h2, h3, hL args s _, lw_frame hF⟩
theorem i_vc : Claimed_1_1 ∧ Claimed_1_2 := ⟨lw_limb limb_1_1 (fun args s t => by simp [limb_1_1, Cond.after, Cond.holds, Cond.value]), lw_limb limb_1_2 (fun args s t => Cond.after_iff.mpr (by
  first | (rw [show limb_1_2 = Cond.eq .result (.int 1) from rfl, Cond.eq_ints (x := 1) (y := 1) rfl rfl]; simp; done) | (simp [limb_1_2, Cond.value, Term.eval]; done)))⟩
