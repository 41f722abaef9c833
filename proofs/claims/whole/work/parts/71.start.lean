/-! the start -/
section START
variable {n : Nat}
theorem starts (hn : 13000 < n) : ∃ i8 i9, f_X8_init n = some i8 ∧ f_X9_init n = some i9 ∧ RX 2100 zOS zOS zOS i8.1 i8.2 zRd zPS i9 none := by
  obtain ⟨r, c1, c2, c3, c4, c5, c6, c7, c8⟩ := c_rbegin (n := n) (4 : Int32) zOS
  obtain ⟨co, d1, d2, d3, d4, d5, d6⟩ := c_begin (n := n) (P := 4) (by omega) (by omega) zOS
  have d1 : f_X2_begin n zOS (4 : Int32) = some co := d1
  obtain ⟨Mc, k1, k33, k34, k35, k36, k370, k371, k372, k373, k374, k10, kf, k31, k32⟩ := m_clears (n := n) (by omega) zMo
  obtain ⟨Mt, m0, m1, m2, m3, m4, m5, m6, m7, m8, m15, m16, m9, m10, m11⟩ := m_takes (n := n) (P := 4) (NP := 0) (M := sI Mc 33 (4 : Int32)) rfl k34 (by omega) (by omega)
  have f : ∀ j, 8 ≤ j → j ≠ 15 → j ≠ 16 → j < 25 → Mt.1 j = zMo.1 j := fun j q1 q2 q3 q4 => by
    rw [m8 j q1 q2 q3, sI_o (by omega), kf.1 j (by omega)]
  refine ⟨(r, co), Mt, ?_, ?_, 4, 0, 5, 10, 20, 3, 10, 0, 0, 0, 0, ⟨⟨c2, c3, c4, c5, c6, c7, c8⟩, ⟨m1, m2, m3.trans k370, m4.trans k371, m5.trans k372, m6.trans k373, m7.trans k374⟩, by omega, by omega, by omega, by omega, by omega, by omega, by omega, by omega, by omega, by omega, by omega, by omega⟩, ⟨fun _ => 0, fun _ _ => 0, fun p hp => absurd hp (by omega)⟩, ?_, ⟨0, by omega, rfl, ?_, fun i hi => absurd hi (by omega)⟩, ⟨0, by omega, rfl, ?_, fun i hi => absurd hi (by omega)⟩, ⟨?_, ?_⟩, ⟨0, 0, by omega, by omega, rfl, rfl, m15, Or.inr ⟨show 0 < 8 by omega, show 0 ≤ 0 by omega, by omega⟩, fun i hi => absurd hi (by omega)⟩, ⟨false, rfl, m16, fun z => absurd z (by decide)⟩, ?_, ?_⟩
  · unfold f_X8_init
    rw [c1, ebnd, d1, ebnd]
  · unfold f_X9_init
    rw [k1, ebnd, m0, ebnd]
  · refine RR_new (by omega) d2 d3 d4 d5 d6 fun i hi => ?_
    rw [m10 i hi]
    exact k10 i hi
  · rw [f 23 (by decide) (by decide) (by decide) (by decide)]
    rfl
  · rw [m8 40 (by decide) (by decide) (by decide), sI_o (by decide), kf.1 40 (by omega)]
    rfl
  · rw [m8 31 (by decide) (by decide) (by decide), sI_o (by decide), k31]
    rfl
  · rw [m8 32 (by decide) (by decide) (by decide), sI_o (by decide), k32]
    rfl
  · rw [f 17 (by decide) (by decide) (by decide) (by decide)]
    rfl
  · rw [f 19 (by decide) (by decide) (by decide) (by decide)]
    rfl
end START
