theorem tm_1291 : (Jvm.Cond.methodLink "MemoryCourtLaw" (109 : Nat) ({ cls := "MemoryCourt", name := "restoreState", desc := "()I" } : Jvm.MethodName)) ∈ lw_tbl := List.mem_of_getElem? (i := 1291) (by decide +kernel)
theorem tm_1292 : (Jvm.Cond.instanceMethod ({ cls := "MemoryCourt", name := "restoreState", desc := "()I" } : Jvm.MethodName)) ∈ lw_tbl := List.mem_of_getElem? (i := 1292) (by decide +kernel)
theorem tm_1293 : (Jvm.Cond.selects "MemoryCourt" ({ cls := "MemoryCourt", name := "restoreState", desc := "()I" } : Jvm.MethodName) ({ cls := "MemoryCourt", name := "restoreState", desc := "()I" } : Jvm.MethodName)) ∈ lw_tbl := List.mem_of_getElem? (i := 1293) (by decide +kernel)
theorem tm_1294 : (Jvm.Cond.code ({ cls := "MemoryCourt", name := "restoreState", desc := "()I" } : Jvm.MethodName) prog_1_method_48_code (1 : Nat) (Option.some Jvm.ClassFile.FieldType.int)) ∈ lw_tbl := List.mem_of_getElem? (i := 1294) (by decide +kernel)
theorem vl_L_109 : VL RL 109 RX8 yX8_restoreState cX8_restoreState 1 (some .int) 0 := ⟨⟨tm_1291, tm_1292, tm_1293, tm_108, tm_1294⟩, by decide +kernel⟩
theorem dL_restoreState_0 : decode cL_restoreState 0 = .ok (.aload_n 1, 1) := by decide +kernel
theorem dL_restoreState_1 : decode cL_restoreState 1 = .ok (.iconst 0, 1) := by decide +kernel
theorem dL_restoreState_2 : decode cL_restoreState 2 = .ok (.aload_n 0, 1) := by decide +kernel
theorem dL_restoreState_3 : decode cL_restoreState 3 = .ok (.invokevirtual 109, 3) := by decide +kernel
theorem dL_restoreState_6 : decode cL_restoreState 6 = .ok (.i2l, 1) := by decide +kernel
theorem dL_restoreState_7 : decode cL_restoreState 7 = .ok (.lastore, 1) := by decide +kernel
theorem dL_restoreState_8 : decode cL_restoreState 8 = .ok (.goto 6, 3) := by decide +kernel
theorem dL_restoreState_11 : decode cL_restoreState 11 = .ok (.astore_n 2, 1) := by decide +kernel
theorem dL_restoreState_12 : decode cL_restoreState 12 = .ok (.iconst 1, 1) := by decide +kernel
theorem dL_restoreState_13 : decode cL_restoreState 13 = .ok (.ireturn, 1) := by decide +kernel
theorem dL_restoreState_14 : decode cL_restoreState 14 = .ok (.iconst 0, 1) := by decide +kernel
theorem dL_restoreState_15 : decode cL_restoreState 15 = .ok (.ireturn, 1) := by decide +kernel
def f_L_restoreState (n : Nat) (th_0 no_0 : OS) (pa_0 : PS) (so : Option OS) (o_0 : Nat → Int64) : Option (OS × PS × (Nat → Int64) × Int32) :=
  bnd4 (f_X8_restoreState n th_0 no_0 pa_0 so) (fun (no1 : OS) (pa1 : PS) (r : Int32) (cd : Nat) =>
  if cd = 0 then some (no1, pa1, vp_updL o_0 0 r.toInt64, (0 : Int32)) else (
  if cd = 3 then some (no1, pa1, o_0, (1 : Int32)) else none))
/-- the pool is the same behind it -/
theorem pl_restore {n : Nat} {th_0 no_0 : OS} {pa_0 : PS} {so : Option OS} {o_0 : Nat → Int64} {no1 : OS} {pa1 : PS} {o1 : Nat → Int64} {r : Int32} (h : f_L_restoreState n th_0 no_0 pa_0 so o_0 = some (no1, pa1, o1, r)) : pa1.2 = pa_0.2 := by
  unfold f_L_restoreState at h
  obtain ⟨no2, pa2, r2, cd, hg, h⟩ := ob4 h
  have key : pa2.2 = pa_0.2 := by
    unfold f_X8_restoreState at hg
    split at hg
    · cases hg; rfl
    · split at hg
      · cases hg; rfl
      · obtain ⟨y, hy, hg⟩ := ob hg
        obtain ⟨p, hp, hg⟩ := ob hg
        cases hg
        unfold f_X3_forget at hp
        obtain ⟨q, hq, hp⟩ := oL hp
        cases hp
        rw [hq]; rfl
  split at h
  · cases h; exact key
  · split at h
    · cases h; exact key
    · cases h
set_option maxHeartbeats 4000000 in
set_option maxRecDepth 100000 in
theorem c_L_restoreState (n : Nat) (l : Launch) (k : KT) (hN : CCH k) (hx : XH l k) (a_th a_in a_ou a_ru a_no a_fo a_rd a_pa a_o : Nat → Nat) (pp_0 : Nat → Nat → Nat) (sa : Nat → Nat) (th_0 no_0 : OS) (pa_0 : PS) (so : Option OS) (o_0 : Nat → Int64) (res : OS × PS × (Nat → Int64) × Int32) (hf : f_L_restoreState n th_0 no_0 pa_0 so o_0 = some res) :
    CXW l k yL_restoreState cL_restoreState 3 (some .int) [(0, 8, 11, 51)] 7 1 6 230 [.ref (a_th 0), .ref (a_o 0)] ((wMCo k a_th (a_in 0) (a_ou 0) (a_ru 0) (a_no 0) (a_fo 0) (a_rd 0) (a_pa 0) (svV sa so) th_0 ++ wCourt k a_no no_0 ++ wPast k a_pa pp_0 pa_0 ++ wJArr k a_o 1 o_0) ++ savW k sa so) (Qi k (fun u : OS × PS × (Nat → Int64) => (wMCo k a_th (a_in 0) (a_ou 0) (a_ru 0) (a_no 0) (a_fo 0) (a_rd 0) (a_pa 0) (svV sa so) th_0 ++ wCourt k a_no u.1 ++ wPast k a_pa pp_0 u.2.1 ++ wJArr k a_o 1 u.2.2) ++ savW k sa so) (fun (r : Int32) u => res = (u.1, u.2.1, u.2.2, r))) := by
  refine CXW.ofI (by decide) (Nat.le_of_ble_eq_true rfl) (fun p e s m args below meth c A Q E hnm htab hW hA hret ls hl => ?_)
  have hl : lv_has ls 3 [(0, .ref (a_th 0)), (1, .ref (a_o 0))] := hl
  unfold f_L_restoreState at hf
  obtain ⟨no1, pa1, r1, cd, hg, hf⟩ := ob4 hf
  refine k_aload_n E hl 1 dL_restoreState_0 rfl ?_
  refine lv_iconst (v := (0 : Int32)) E.hx E.hb dL_restoreState_1 ic_0 ?_
  refine k_aload_n E hl 0 dL_restoreState_2 rfl ?_
  refine k_callXGi (As := []) (rest := [.int (0 : Int32), .ref (a_o 0)]) (cx1 := fun u : OS × PS => wMCo k a_th (a_in 0) (a_ou 0) (a_ru 0) (a_no 0) (a_fo 0) (a_rd 0) (a_pa 0) (svV sa so) th_0 ++ wCourt k a_no u.1 ++ wPast k a_pa pp_0 u.2) (tail1 := fun _ => savW k sa so) (ws2 := fun u => (wMCo k a_th (a_in 0) (a_ou 0) (a_ru 0) (a_no 0) (a_fo 0) (a_rd 0) (a_pa 0) (svV sa so) th_0 ++ wCourt k a_no u.1 ++ wPast k a_pa pp_0 u.2 ++ wJArr k a_o 1 o_0) ++ savW k sa so) (c_X8_restoreState n l k hx a_th a_in a_ou a_ru a_no a_fo a_rd a_pa pp_0 sa th_0 no_0 pa_0 so (no1, pa1, r1, cd) hg) E vl_L_109 dL_restoreState_3 rfl (List.range' 0 15) 6 0 hW hA hl rfl (blk_map [] (wMCo k a_th (a_in 0) (a_ou 0) (a_ru 0) (a_no 0) (a_fo 0) (a_rd 0) (a_pa 0) (svV sa so) th_0 ++ wCourt k a_no no_0 ++ wPast k a_pa pp_0 pa_0) (wJArr k a_o 1 o_0) 0 15 (by simp only [List.nil_append]) rfl rfl) rfl rfl ⟨by decide, by decide⟩ ⟨by decide, by decide⟩ (Nat.le_of_ble_eq_true rfl) rfl (fun _ => rfl) (fun u => by rw [blk_put [] (wMCo k a_th (a_in 0) (a_ou 0) (a_ru 0) (a_no 0) (a_fo 0) (a_rd 0) (a_pa 0) (svV sa so) th_0 ++ wCourt k a_no no_0 ++ wPast k a_pa pp_0 pa_0) (wJArr k a_o 1 o_0) (wMCo k a_th (a_in 0) (a_ou 0) (a_ru 0) (a_no 0) (a_fo 0) (a_rd 0) (a_pa 0) (svV sa so) th_0 ++ wCourt k a_no u.1 ++ wPast k a_pa pp_0 u.2) 0 15 (by simp only [List.nil_append]) rfl rfl rfl]; try simp only [List.nil_append]) (fun cd9 u ce9 q9 H locs hp hW hce hcv hcls => ?_) (fun r u H locs hp hW => ?_)
  · obtain ⟨hcd, hp⟩ := hp
    obtain ⟨u0, u1⟩ := u
    try dsimp only at hp
    cases hp
    have hf := oF hcd hf
    by_cases hc : cd = 3
    · have hf := oT hc hf
      subst hc
      refine k_catch (cd := 3) hN E htab [] (0, 8, 11, 51) [] rfl (fun z hz => by simp at hz) (by decide) (by decide) rfl (by decide) tm_997 tm_1009 hce hcv hcls ?_
      refine lv_astore_n (lv' := [(2, .ref q9), (0, .ref (a_th 0)), (1, .ref (a_o 0))]) E.hx E.hb dL_restoreState_11 rfl hl (by decide) rfl (fun ls hl => ?_)
      refine lv_iconst (v := (1 : Int32)) E.hx E.hb dL_restoreState_12 ic_1 ?_
      exact hret _ (no1, pa1, o_0) _ _ _ _ _ _ hW (Option.some.inj hf).symm rfl (by decide) (by decide) dL_restoreState_13
    · exact o0 (oF hc hf)
  · obtain ⟨u0, u1⟩ := u
    try dsimp only at hp
    cases hp
    have hf := oT rfl hf
    refine lv_i2l (v := r1.toInt64) E.hx E.hb dL_restoreState_6 rfl ?_
    refine k_last (ws2 := (wMCo k a_th (a_in 0) (a_ou 0) (a_ru 0) (a_no 0) (a_fo 0) (a_rd 0) (a_pa 0) (svV sa so) th_0 ++ wCourt k a_no no1 ++ wPast k a_pa pp_0 pa1 ++ wJArr k a_o 1 (vp_updL o_0 0 r1.toInt64)) ++ savW k sa so) E hW 15 rfl (by unfold vp_in; decide) dL_restoreState_7 rfl (fun H locs hW => ?_)
    refine lv_goto (tgt := 14) E.hx E.hb dL_restoreState_8 (by decide) ?_
    refine lv_iconst (v := (0 : Int32)) E.hx E.hb dL_restoreState_14 ic_0 ?_
    exact hret _ (no1, pa1, vp_updL o_0 0 r1.toInt64) _ _ _ _ _ _ hW (Option.some.inj hf).symm rfl (by decide) (by decide) dL_restoreState_15
