/-! what the tables say of the classes, at the start -/
set_option maxHeartbeats 4000000 in
theorem ex_cls {args : Array Value} {s : State} (hts : ∀ w ∈ lw_tbl, w.before args s = true) : ∃ D : va_G, ∀ (c : Nat) (q : vw_C), vwCl[c]? = some q → u_Kn s q.1 q.2.1 q.2.2 (D.1 c) (D.2 c) := by
  obtain ⟨c1, i1, h1⟩ := u_known (ws := wsX10) (C := RX1) (T := TX1) (N := 2) (n := 2) (fun w hw => hts w (inX1 w hw)) (fun _ h => h) (hts (.instantiable RX1 2) (by decide +kernel))
  obtain ⟨c2, i2, h2⟩ := u_known (ws := wsX20) (C := RX2) (T := TX2) (N := 16) (n := 16) (fun w hw => hts w (inX2 w hw)) (fun _ h => h) (hts (.instantiable RX2 16) (by decide +kernel))
  obtain ⟨c3, i3, h3⟩ := u_known (ws := wsX30) (C := RX3) (T := TX3) (N := 3) (n := 3) (fun w hw => hts w (inX3 w hw)) (fun _ h => h) (hts (.instantiable RX3 3) (by decide +kernel))
  obtain ⟨c4, i4, h4⟩ := u_known (ws := wsX40) (C := RX4) (T := TX4) (N := 12) (n := 12) (fun w hw => hts w (inX4 w hw)) (fun _ h => h) (hts (.instantiable RX4 12) (by decide +kernel))
  obtain ⟨c5, i5, h5⟩ := u_known (ws := wsX50) (C := RX5) (T := TX5) (N := 8) (n := 8) (fun w hw => hts w (inX5 w hw)) (fun _ h => h) (hts (.instantiable RX5 8) (by decide +kernel))
  obtain ⟨c6, i6, h6⟩ := u_known (ws := wsX60) (C := RX6) (T := TX6) (N := 2) (n := 2) (fun w hw => hts w (inX6 w hw)) (fun _ h => h) (hts (.instantiable RX6 2) (by decide +kernel))
  obtain ⟨c8, i8, h8⟩ := u_known (ws := wsX80) (C := RX8) (T := TX8) (N := 9) (n := 9) (fun w hw => hts w (inX8 w hw)) (fun _ h => h) (hts (.instantiable RX8 9) (by decide +kernel))
  obtain ⟨c9, i9, h9⟩ := u_known (ws := wsX90) (C := RX9) (T := TX9) (N := 41) (n := 41) (fun w hw => hts w (inX9 w hw)) (fun _ h => h) (hts (.instantiable RX9 41) (by decide +kernel))
  refine ⟨(fun k => if k = 0 then c1 else if k = 1 then c2 else if k = 2 then c3 else if k = 3 then c4 else if k = 4 then c5 else if k = 5 then c6 else if k = 6 then c8 else c9, fun k => if k = 0 then i1 else if k = 1 then i2 else if k = 2 then i3 else if k = 3 then i4 else if k = 4 then i5 else if k = 5 then i6 else if k = 6 then i8 else i9), ?_⟩
  intro k q hq
  match k, hq with
  | 0, hq => cases hq; exact h1
  | 1, hq => cases hq; exact h2
  | 2, hq => cases hq; exact h3
  | 3, hq => cases hq; exact h4
  | 4, hq => cases hq; exact h5
  | 5, hq => cases hq; exact h6
  | 6, hq => cases hq; exact h8
  | 7, hq => cases hq; exact h9
  | k + 8, hq => simp [vwCl] at hq
theorem ex_arr {args : Array Value} {s : State} (hts : ∀ w ∈ lw_tbl, w.before args s = true) : ∃ T : Nat → ClassId, ∀ (k : Nat) (q : ClassId × FieldType), [(T 0, FieldType.int), (T 1, .long), (T 2, .byte), (T 3, .object "MemoryCourt$Court")][k]? = some q → ArrOfT s q.1 q.2 ∧ va_RA s q.1 q.2 := by
  obtain ⟨ci, ki, pi, i1, i2, i3⟩ := Cond.arrayClass_spec (hts (.arrayClass .int) (by decide +kernel))
  obtain ⟨cj, kj, pj, j1, j2, j3⟩ := Cond.arrayClass_spec (hts (.arrayClass .long) (by decide +kernel))
  obtain ⟨cb, kb, pb, b1, b2, b3⟩ := Cond.arrayClass_spec (hts (.arrayClass .byte) (by decide +kernel))
  obtain ⟨po, co, ko, o1, o2, o3, o4, o5⟩ := Cond.arrayOver_spec (hts (.arrayOver (.object "MemoryCourt$Court")) (by decide +kernel))
  refine ⟨fun k => if k = 0 then ci else if k = 1 then cj else if k = 2 then cb else co, ?_⟩
  intro k q hq
  match k, hq with
  | 0, hq => cases hq; exact ⟨fun n z => ⟨fun k h => (by cases h), ki, i2, pi, i3⟩, i1⟩
  | 1, hq => cases hq; exact ⟨fun n z => ⟨fun k h => (by cases h), kj, j2, pj, j3⟩, j1⟩
  | 2, hq => cases hq; exact ⟨fun n z => ⟨fun k h => (by cases h), kb, b2, pb, b3⟩, b1⟩
  | 3, hq => cases hq; exact ⟨fun n z => ⟨fun k h => (by cases h), ko, o3, po, o4⟩, ⟨ko, po, o3, o4, o1, o5⟩⟩
  | k + 4, hq => simp at hq
