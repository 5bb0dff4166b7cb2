/-! THE LAW'S CALLS, one by one -/
section Wraps
theorem wl_13 : Cond.classLink RL 13 xIAE ∈ lw_tbl := tb (List.mem_of_getElem? (i := 248) (by decide +kernel))
theorem wl_15 : Cond.classLink RL 15 xISE ∈ lw_tbl := tb (List.mem_of_getElem? (i := 249) (by decide +kernel))
theorem wl_21 : Cond.classLink RL 21 xIOB ∈ lw_tbl := tb (List.mem_of_getElem? (i := 356) (by decide +kernel))
theorem wl_45 : Cond.classLink RL 45 xUOE ∈ lw_tbl := tb (List.mem_of_getElem? (i := 441) (by decide +kernel))
theorem wl_66 : Cond.classLink RL 66 xNSE ∈ lw_tbl := tb (List.mem_of_getElem? (i := 505) (by decide +kernel))
theorem wk_xIAE : Cond.castable xIAE xIAE ∈ lw_tbl := tb (List.mem_of_getElem? (i := 265) (by decide +kernel))
theorem wk_xISE : Cond.castable xISE xISE ∈ lw_tbl := tb (List.mem_of_getElem? (i := 335) (by decide +kernel))
theorem wk_xIOB : Cond.castable xIOB xIOB ∈ lw_tbl := tb (List.mem_of_getElem? (i := 368) (by decide +kernel))
theorem wk_xUOE : Cond.castable xUOE xUOE ∈ lw_tbl := tb (List.mem_of_getElem? (i := 449) (by decide +kernel))
theorem wk_xNSE : Cond.castable xNSE xNSE ∈ lw_tbl := tb (List.mem_of_getElem? (i := 512) (by decide +kernel))
variable {l : Launch} {w : Wo} {M : Mem} {G : Lng}
theorem mx_L_install : MWx yL_install cL_install 10 (some .int) [(0, 20, 23, 13), (0, 20, 27, 15)] 9 := ⟨tb (List.mem_of_getElem? (i := 247) (by decide +kernel)), tb (List.mem_of_getElem? (i := 0) (by decide +kernel)), ⟨by decide +kernel, by decide +kernel⟩, by decide +kernel, by decide +kernel, by decide +kernel⟩
theorem ms_L_install : Cond.static yL_install ∈ lw_tbl := tb (List.mem_of_getElem? (i := 246) (by decide +kernel))
set_option maxHeartbeats 4000000 in
set_option maxRecDepth 100000 in
theorem c_L_install {x1 : Int32} {x2 : Int32} {x3 : Int32} {x4 : Int32} {x5 : Int32} {x6 : Int32} {x7 : Int32} {o9 : Oc} (hnt : l.stackTraces = false) (hw : WK w) (hD : DI M) (ho : wrR [xIAE, xISE] (oInstall M G x1 x2 x3 x4 x5 x6 x7) o9) : CT l yL_install [Cond.codeWith yL_install cL_install 10 (some .int) [(0, 20, 23, 13), (0, 20, 27, 15)]] 8 4 24 w [.ref (w.1 (2, 0)), .int x1, .int x2, .int x3, .int x4, .int x5, .int x6, .int x7, .ref (w.1 (40, 0))] M G o9 := by
  refine CTx_of hnt hw.1 mx_L_install (by simp [Value.category]) (Nat.le_of_ble_eq_true rfl) (fun p e s m args below meth c X => ?_)
  refine r_aload X dL_install_0 rfl ?_
  refine r_iconst X dL_install_2 (v := nI 0) (by decide) ?_
  refine r_aload_n X dL_install_3 (i := 0) rfl rfl ?_
  refine r_iload_n X dL_install_4 (i := 1) rfl rfl ?_
  refine r_iload_n X dL_install_5 (i := 2) rfl rfl ?_
  refine r_iload_n X dL_install_6 (i := 3) rfl rfl ?_
  refine r_iload X dL_install_7 rfl ?_
  refine r_iload X dL_install_9 rfl ?_
  refine r_iload X dL_install_11 rfl ?_
  refine r_iload X dL_install_13 rfl ?_
  refine r_callV X (c_X2_install (p9 := x1) (v9 := x2) (e9 := x3) (d9 := x4) (c9 := x5) (u9 := x6) (q9 := x7) hnt hw hD) mw_X2_install kc2 mi_X2_install (hw.2 _ _ (by decide)) ev2 ml_L_7 rfl rfl (Nat.le_of_ble_eq_true rfl) (by first | decide | (simp only [rmv]; omega)) (by first | decide | (simp only [rmv]; omega)) (by first | decide | (simp only [rmv]; omega)) (by first | decide | (simp only [rmv]; omega)) dL_install_15 (kw ho (fun k X9 M1 G1 hX hoW => ?_) (fun v M1 G1 hoW => ?_))
  · rcases k with _ | _ | k
    · obtain rfl : xIAE = X9 := Option.some.inj hX
      refine r_catch X (nm := xIAE) [] ⟨0, 20, 23, 13⟩ [⟨0, 20, 27, 15⟩] rfl (fun z hz => absurd hz List.not_mem_nil) (by decide) (by decide) wl_13 wk_xIAE (fun q => ?_)
      refine r_astore X dL_install_23 (by decide) rfl ?_
      refine r_iconst X dL_install_25 (v := nI 1) (by decide) ?_
      exact r_iret X dL_install_26 (by simp) (by simp) hoW
    · obtain rfl : xISE = X9 := Option.some.inj hX
      refine r_catch X (nm := xISE) [⟨0, 20, 23, 13⟩] ⟨0, 20, 27, 15⟩ [] rfl (List.forall_mem_cons.mpr ⟨.inr ⟨by decide, xIAE, wl_13, by decide +kernel⟩, fun z hz => absurd hz List.not_mem_nil⟩) (by decide) (by decide) wl_15 wk_xISE (fun q => ?_)
      refine r_astore X dL_install_27 (by decide) rfl ?_
      refine r_iconst X dL_install_29 (v := nI 2) (by decide) ?_
      exact r_iret X dL_install_30 (by simp) (by simp) hoW
    · exact absurd hX (by simp)
  · refine r_i2l X dL_install_18 ?_
    refine r_last0 X (hw.2 _ _ (by decide)) dL_install_19 ?_
    refine r_goto X dL_install_20 (tgt := 31) (by decide) ?_
    refine r_iconst X dL_install_31 (v := nI 0) (by decide) ?_
    exact r_iret X dL_install_32 (by simp) (by simp) hoW
theorem mx_L_retire : MWx yL_retire cL_retire 4 (some .int) [(0, 9, 12, 21)] 3 := ⟨tb (List.mem_of_getElem? (i := 355) (by decide +kernel)), tb (List.mem_of_getElem? (i := 0) (by decide +kernel)), ⟨by decide +kernel, by decide +kernel⟩, by decide +kernel, by decide +kernel, by decide +kernel⟩
theorem ms_L_retire : Cond.static yL_retire ∈ lw_tbl := tb (List.mem_of_getElem? (i := 354) (by decide +kernel))
set_option maxHeartbeats 4000000 in
set_option maxRecDepth 100000 in
theorem c_L_retire {x1 : Int32} {o9 : Oc} (hnt : l.stackTraces = false) (hw : WK w) (hD : DI M) (ho : wrR [xIOB] (oRetire M G x1) o9) : CT l yL_retire [Cond.codeWith yL_retire cL_retire 4 (some .int) [(0, 9, 12, 21)]] 8 4 24 w [.ref (w.1 (2, 0)), .int x1, .ref (w.1 (40, 0))] M G o9 := by
  refine CTx_of hnt hw.1 mx_L_retire (by simp [Value.category]) (Nat.le_of_ble_eq_true rfl) (fun p e s m args below meth c X => ?_)
  refine r_aload_n X dL_retire_0 (i := 2) rfl rfl ?_
  refine r_iconst X dL_retire_1 (v := nI 0) (by decide) ?_
  refine r_aload_n X dL_retire_2 (i := 0) rfl rfl ?_
  refine r_iload_n X dL_retire_3 (i := 1) rfl rfl ?_
  refine r_callV X (c_X2_retire (x := x1) hnt hw) mw_X2_retire kc2 mi_X2_retire (hw.2 _ _ (by decide)) ev2 ml_L_17 rfl rfl (Nat.le_of_ble_eq_true rfl) (by first | decide | (simp only [rmv]; omega)) (by first | decide | (simp only [rmv]; omega)) (by first | decide | (simp only [rmv]; omega)) (by first | decide | (simp only [rmv]; omega)) dL_retire_4 (kw ho (fun k X9 M1 G1 hX hoW => ?_) (fun v M1 G1 hoW => ?_))
  · rcases k with _ | k
    · obtain rfl : xIOB = X9 := Option.some.inj hX
      refine r_catch X (nm := xIOB) [] ⟨0, 9, 12, 21⟩ [] rfl (fun z hz => absurd hz List.not_mem_nil) (by decide) (by decide) wl_21 wk_xIOB (fun q => ?_)
      refine r_astore_n X dL_retire_12 (i := 3) rfl (by decide) rfl ?_
      refine r_iconst X dL_retire_13 (v := nI 1) (by decide) ?_
      exact r_iret X dL_retire_14 (by simp) (by simp) hoW
    · exact absurd hX (by simp)
  · refine r_i2l X dL_retire_7 ?_
    refine r_last0 X (hw.2 _ _ (by decide)) dL_retire_8 ?_
    refine r_goto X dL_retire_9 (tgt := 15) (by decide) ?_
    refine r_iconst X dL_retire_15 (v := nI 0) (by decide) ?_
    exact r_iret X dL_retire_16 (by simp) (by simp) hoW
theorem mx_L_moveTo : MWx yL_moveTo cL_moveTo 6 (some .int) [(0, 12, 15, 21), (0, 12, 19, 13)] 5 := ⟨tb (List.mem_of_getElem? (i := 384) (by decide +kernel)), tb (List.mem_of_getElem? (i := 0) (by decide +kernel)), ⟨by decide +kernel, by decide +kernel⟩, by decide +kernel, by decide +kernel, by decide +kernel⟩
theorem ms_L_moveTo : Cond.static yL_moveTo ∈ lw_tbl := tb (List.mem_of_getElem? (i := 383) (by decide +kernel))
set_option maxHeartbeats 4000000 in
set_option maxRecDepth 100000 in
theorem c_L_moveTo {x1 : Int32} {x2 : Int32} {x3 : Int32} {o9 : Oc} (hnt : l.stackTraces = false) (hw : WK w) (hD : DI M) (ho : wrR [xIOB, xIAE] (oMoveTo M G x1 x2 x3) o9) : CT l yL_moveTo [Cond.codeWith yL_moveTo cL_moveTo 6 (some .int) [(0, 12, 15, 21), (0, 12, 19, 13)]] 8 4 24 w [.ref (w.1 (2, 0)), .int x1, .int x2, .int x3, .ref (w.1 (40, 0))] M G o9 := by
  refine CTx_of hnt hw.1 mx_L_moveTo (by simp [Value.category]) (Nat.le_of_ble_eq_true rfl) (fun p e s m args below meth c X => ?_)
  refine r_aload X dL_moveTo_0 rfl ?_
  refine r_iconst X dL_moveTo_2 (v := nI 0) (by decide) ?_
  refine r_aload_n X dL_moveTo_3 (i := 0) rfl rfl ?_
  refine r_iload_n X dL_moveTo_4 (i := 1) rfl rfl ?_
  refine r_iload_n X dL_moveTo_5 (i := 2) rfl rfl ?_
  refine r_iload_n X dL_moveTo_6 (i := 3) rfl rfl ?_
  refine r_callV X (c_X2_moveTo (x := x1) (d9 := x2) (u9 := x3) hnt hw) mw_X2_moveTo kc2 mi_X2_moveTo (hw.2 _ _ (by decide)) ev2 ml_L_23 rfl rfl (Nat.le_of_ble_eq_true rfl) (by first | decide | (simp only [rmv]; omega)) (by first | decide | (simp only [rmv]; omega)) (by first | decide | (simp only [rmv]; omega)) (by first | decide | (simp only [rmv]; omega)) dL_moveTo_7 (kw ho (fun k X9 M1 G1 hX hoW => ?_) (fun v M1 G1 hoW => ?_))
  · rcases k with _ | _ | k
    · obtain rfl : xIOB = X9 := Option.some.inj hX
      refine r_catch X (nm := xIOB) [] ⟨0, 12, 15, 21⟩ [⟨0, 12, 19, 13⟩] rfl (fun z hz => absurd hz List.not_mem_nil) (by decide) (by decide) wl_21 wk_xIOB (fun q => ?_)
      refine r_astore X dL_moveTo_15 (by decide) rfl ?_
      refine r_iconst X dL_moveTo_17 (v := nI 1) (by decide) ?_
      exact r_iret X dL_moveTo_18 (by simp) (by simp) hoW
    · obtain rfl : xIAE = X9 := Option.some.inj hX
      refine r_catch X (nm := xIAE) [⟨0, 12, 15, 21⟩] ⟨0, 12, 19, 13⟩ [] rfl (List.forall_mem_cons.mpr ⟨.inr ⟨by decide, xIOB, wl_21, by decide +kernel⟩, fun z hz => absurd hz List.not_mem_nil⟩) (by decide) (by decide) wl_13 wk_xIAE (fun q => ?_)
      refine r_astore X dL_moveTo_19 (by decide) rfl ?_
      refine r_iconst X dL_moveTo_21 (v := nI 2) (by decide) ?_
      exact r_iret X dL_moveTo_22 (by simp) (by simp) hoW
    · exact absurd hX (by simp)
  · refine r_i2l X dL_moveTo_10 ?_
    refine r_last0 X (hw.2 _ _ (by decide)) dL_moveTo_11 ?_
    refine r_goto X dL_moveTo_12 (tgt := 23) (by decide) ?_
    refine r_iconst X dL_moveTo_23 (v := nI 0) (by decide) ?_
    exact r_iret X dL_moveTo_24 (by simp) (by simp) hoW
theorem mx_L_setVersion : MWx yL_setVersion cL_setVersion 6 (some .int) [(0, 12, 15, 21), (0, 12, 19, 13)] 5 := ⟨tb (List.mem_of_getElem? (i := 392) (by decide +kernel)), tb (List.mem_of_getElem? (i := 0) (by decide +kernel)), ⟨by decide +kernel, by decide +kernel⟩, by decide +kernel, by decide +kernel, by decide +kernel⟩
theorem ms_L_setVersion : Cond.static yL_setVersion ∈ lw_tbl := tb (List.mem_of_getElem? (i := 391) (by decide +kernel))
set_option maxHeartbeats 4000000 in
set_option maxRecDepth 100000 in
theorem c_L_setVersion {x1 : Int32} {x2 : Int32} {x3 : Int32} {o9 : Oc} (hnt : l.stackTraces = false) (hw : WK w) (hD : DI M) (ho : wrR [xIOB, xIAE] (oSetVersion M G x1 x2 x3) o9) : CT l yL_setVersion [Cond.codeWith yL_setVersion cL_setVersion 6 (some .int) [(0, 12, 15, 21), (0, 12, 19, 13)]] 8 4 24 w [.ref (w.1 (2, 0)), .int x1, .int x2, .int x3, .ref (w.1 (40, 0))] M G o9 := by
  refine CTx_of hnt hw.1 mx_L_setVersion (by simp [Value.category]) (Nat.le_of_ble_eq_true rfl) (fun p e s m args below meth c X => ?_)
  refine r_aload X dL_setVersion_0 rfl ?_
  refine r_iconst X dL_setVersion_2 (v := nI 0) (by decide) ?_
  refine r_aload_n X dL_setVersion_3 (i := 0) rfl rfl ?_
  refine r_iload_n X dL_setVersion_4 (i := 1) rfl rfl ?_
  refine r_iload_n X dL_setVersion_5 (i := 2) rfl rfl ?_
  refine r_iload_n X dL_setVersion_6 (i := 3) rfl rfl ?_
  refine r_callV X (c_X2_setVersion (x := x1) (d9 := x2) (u9 := x3) hnt hw) mw_X2_setVersion kc2 mi_X2_setVersion (hw.2 _ _ (by decide)) ev2 ml_L_27 rfl rfl (Nat.le_of_ble_eq_true rfl) (by first | decide | (simp only [rmv]; omega)) (by first | decide | (simp only [rmv]; omega)) (by first | decide | (simp only [rmv]; omega)) (by first | decide | (simp only [rmv]; omega)) dL_setVersion_7 (kw ho (fun k X9 M1 G1 hX hoW => ?_) (fun v M1 G1 hoW => ?_))
  · rcases k with _ | _ | k
    · obtain rfl : xIOB = X9 := Option.some.inj hX
      refine r_catch X (nm := xIOB) [] ⟨0, 12, 15, 21⟩ [⟨0, 12, 19, 13⟩] rfl (fun z hz => absurd hz List.not_mem_nil) (by decide) (by decide) wl_21 wk_xIOB (fun q => ?_)
      refine r_astore X dL_setVersion_15 (by decide) rfl ?_
      refine r_iconst X dL_setVersion_17 (v := nI 1) (by decide) ?_
      exact r_iret X dL_setVersion_18 (by simp) (by simp) hoW
    · obtain rfl : xIAE = X9 := Option.some.inj hX
      refine r_catch X (nm := xIAE) [⟨0, 12, 15, 21⟩] ⟨0, 12, 19, 13⟩ [] rfl (List.forall_mem_cons.mpr ⟨.inr ⟨by decide, xIOB, wl_21, by decide +kernel⟩, fun z hz => absurd hz List.not_mem_nil⟩) (by decide) (by decide) wl_13 wk_xIAE (fun q => ?_)
      refine r_astore X dL_setVersion_19 (by decide) rfl ?_
      refine r_iconst X dL_setVersion_21 (v := nI 2) (by decide) ?_
      exact r_iret X dL_setVersion_22 (by simp) (by simp) hoW
    · exact absurd hX (by simp)
  · refine r_i2l X dL_setVersion_10 ?_
    refine r_last0 X (hw.2 _ _ (by decide)) dL_setVersion_11 ?_
    refine r_goto X dL_setVersion_12 (tgt := 23) (by decide) ?_
    refine r_iconst X dL_setVersion_23 (v := nI 0) (by decide) ?_
    exact r_iret X dL_setVersion_24 (by simp) (by simp) hoW
theorem mx_L_setPool : MWx yL_setPool cL_setPool 5 (some .int) [(0, 10, 13, 21), (0, 10, 17, 13)] 4 := ⟨tb (List.mem_of_getElem? (i := 400) (by decide +kernel)), tb (List.mem_of_getElem? (i := 0) (by decide +kernel)), ⟨by decide +kernel, by decide +kernel⟩, by decide +kernel, by decide +kernel, by decide +kernel⟩
theorem ms_L_setPool : Cond.static yL_setPool ∈ lw_tbl := tb (List.mem_of_getElem? (i := 399) (by decide +kernel))
set_option maxHeartbeats 4000000 in
set_option maxRecDepth 100000 in
theorem c_L_setPool {x1 : Int32} {x2 : Int32} {o9 : Oc} (hnt : l.stackTraces = false) (hw : WK w) (hD : DI M) (ho : wrR [xIOB, xIAE] (oSetPool M G x1 x2) o9) : CT l yL_setPool [Cond.codeWith yL_setPool cL_setPool 5 (some .int) [(0, 10, 13, 21), (0, 10, 17, 13)]] 8 4 24 w [.ref (w.1 (2, 0)), .int x1, .int x2, .ref (w.1 (40, 0))] M G o9 := by
  refine CTx_of hnt hw.1 mx_L_setPool (by simp [Value.category]) (Nat.le_of_ble_eq_true rfl) (fun p e s m args below meth c X => ?_)
  refine r_aload_n X dL_setPool_0 (i := 3) rfl rfl ?_
  refine r_iconst X dL_setPool_1 (v := nI 0) (by decide) ?_
  refine r_aload_n X dL_setPool_2 (i := 0) rfl rfl ?_
  refine r_iload_n X dL_setPool_3 (i := 1) rfl rfl ?_
  refine r_iload_n X dL_setPool_4 (i := 2) rfl rfl ?_
  refine r_callV X (c_X2_setPool (x := x1) (d9 := x2) hnt hw) mw_X2_setPool kc2 mi_X2_setPool (hw.2 _ _ (by decide)) ev2 ml_L_30 rfl rfl (Nat.le_of_ble_eq_true rfl) (by first | decide | (simp only [rmv]; omega)) (by first | decide | (simp only [rmv]; omega)) (by first | decide | (simp only [rmv]; omega)) (by first | decide | (simp only [rmv]; omega)) dL_setPool_5 (kw ho (fun k X9 M1 G1 hX hoW => ?_) (fun v M1 G1 hoW => ?_))
  · rcases k with _ | _ | k
    · obtain rfl : xIOB = X9 := Option.some.inj hX
      refine r_catch X (nm := xIOB) [] ⟨0, 10, 13, 21⟩ [⟨0, 10, 17, 13⟩] rfl (fun z hz => absurd hz List.not_mem_nil) (by decide) (by decide) wl_21 wk_xIOB (fun q => ?_)
      refine r_astore X dL_setPool_13 (by decide) rfl ?_
      refine r_iconst X dL_setPool_15 (v := nI 1) (by decide) ?_
      exact r_iret X dL_setPool_16 (by simp) (by simp) hoW
    · obtain rfl : xIAE = X9 := Option.some.inj hX
      refine r_catch X (nm := xIAE) [⟨0, 10, 13, 21⟩] ⟨0, 10, 17, 13⟩ [] rfl (List.forall_mem_cons.mpr ⟨.inr ⟨by decide, xIOB, wl_21, by decide +kernel⟩, fun z hz => absurd hz List.not_mem_nil⟩) (by decide) (by decide) wl_13 wk_xIAE (fun q => ?_)
      refine r_astore X dL_setPool_17 (by decide) rfl ?_
      refine r_iconst X dL_setPool_19 (v := nI 2) (by decide) ?_
      exact r_iret X dL_setPool_20 (by simp) (by simp) hoW
    · exact absurd hX (by simp)
  · refine r_i2l X dL_setPool_8 ?_
    refine r_last0 X (hw.2 _ _ (by decide)) dL_setPool_9 ?_
    refine r_goto X dL_setPool_10 (tgt := 21) (by decide) ?_
    refine r_iconst X dL_setPool_21 (v := nI 0) (by decide) ?_
    exact r_iret X dL_setPool_22 (by simp) (by simp) hoW
theorem mx_L_entitle : MWx yL_entitle cL_entitle 9 (some .int) [(0, 18, 21, 13), (0, 18, 25, 15)] 8 := ⟨tb (List.mem_of_getElem? (i := 408) (by decide +kernel)), tb (List.mem_of_getElem? (i := 0) (by decide +kernel)), ⟨by decide +kernel, by decide +kernel⟩, by decide +kernel, by decide +kernel, by decide +kernel⟩
theorem ms_L_entitle : Cond.static yL_entitle ∈ lw_tbl := tb (List.mem_of_getElem? (i := 407) (by decide +kernel))
set_option maxHeartbeats 4000000 in
set_option maxRecDepth 100000 in
theorem c_L_entitle {x1 : Int32} {x2 : Int32} {x3 : Int32} {x4 : Int32} {x5 : Int32} {x6 : Int32} {o9 : Oc} (hnt : l.stackTraces = false) (hw : WK w) (hD : DI M) (hm1 : narrow .char (.int x4) = .int x4) (hm2 : fits .char (.int x4) = true) (ho : wrR [xIAE, xISE] (oEntitle M G x1 x2 x3 x4 x5 x6) o9) : CT l yL_entitle [Cond.codeWith yL_entitle cL_entitle 9 (some .int) [(0, 18, 21, 13), (0, 18, 25, 15)]] 8 4 24 w [.ref (w.1 (2, 0)), .int x1, .int x2, .int x3, .int x4, .int x5, .int x6, .ref (w.1 (40, 0))] M G o9 := by
  refine CTx_of hnt hw.1 mx_L_entitle (by simp [Value.category]) (Nat.le_of_ble_eq_true rfl) (fun p e s m args below meth c X => ?_)
  refine r_aload X dL_entitle_0 rfl ?_
  refine r_iconst X dL_entitle_2 (v := nI 0) (by decide) ?_
  refine r_aload_n X dL_entitle_3 (i := 0) rfl rfl ?_
  refine r_iload_n X dL_entitle_4 (i := 1) rfl rfl ?_
  refine r_iload_n X dL_entitle_5 (i := 2) rfl rfl ?_
  refine r_iload_n X dL_entitle_6 (i := 3) rfl rfl ?_
  refine r_iload X dL_entitle_7 rfl ?_
  refine r_iload X dL_entitle_9 rfl ?_
  refine r_iload X dL_entitle_11 rfl ?_
  refine r_callV X (c_X2_entitle (p9 := x1) (v9 := x2) (d9 := x3) (m9 := x4) (u9 := x5) (q9 := x6) hnt hw hD hm1 hm2) mw_X2_entitle kc2 mi_X2_entitle (hw.2 _ _ (by decide)) ev2 ml_L_34 rfl rfl (Nat.le_of_ble_eq_true rfl) (by first | decide | (simp only [rmv]; omega)) (by first | decide | (simp only [rmv]; omega)) (by first | decide | (simp only [rmv]; omega)) (by first | decide | (simp only [rmv]; omega)) dL_entitle_13 (kw ho (fun k X9 M1 G1 hX hoW => ?_) (fun v M1 G1 hoW => ?_))
  · rcases k with _ | _ | k
    · obtain rfl : xIAE = X9 := Option.some.inj hX
      refine r_catch X (nm := xIAE) [] ⟨0, 18, 21, 13⟩ [⟨0, 18, 25, 15⟩] rfl (fun z hz => absurd hz List.not_mem_nil) (by decide) (by decide) wl_13 wk_xIAE (fun q => ?_)
      refine r_astore X dL_entitle_21 (by decide) rfl ?_
      refine r_iconst X dL_entitle_23 (v := nI 1) (by decide) ?_
      exact r_iret X dL_entitle_24 (by simp) (by simp) hoW
    · obtain rfl : xISE = X9 := Option.some.inj hX
      refine r_catch X (nm := xISE) [⟨0, 18, 21, 13⟩] ⟨0, 18, 25, 15⟩ [] rfl (List.forall_mem_cons.mpr ⟨.inr ⟨by decide, xIAE, wl_13, by decide +kernel⟩, fun z hz => absurd hz List.not_mem_nil⟩) (by decide) (by decide) wl_15 wk_xISE (fun q => ?_)
      refine r_astore X dL_entitle_25 (by decide) rfl ?_
      refine r_iconst X dL_entitle_27 (v := nI 2) (by decide) ?_
      exact r_iret X dL_entitle_28 (by simp) (by simp) hoW
    · exact absurd hX (by simp)
  · refine r_i2l X dL_entitle_16 ?_
    refine r_last0 X (hw.2 _ _ (by decide)) dL_entitle_17 ?_
    refine r_goto X dL_entitle_18 (tgt := 29) (by decide) ?_
    refine r_iconst X dL_entitle_29 (v := nI 0) (by decide) ?_
    exact r_iret X dL_entitle_30 (by simp) (by simp) hoW
theorem mx_L_setRights : MWx yL_setRights cL_setRights 7 (some .int) [(0, 14, 17, 21)] 6 := ⟨tb (List.mem_of_getElem? (i := 424) (by decide +kernel)), tb (List.mem_of_getElem? (i := 0) (by decide +kernel)), ⟨by decide +kernel, by decide +kernel⟩, by decide +kernel, by decide +kernel, by decide +kernel⟩
theorem ms_L_setRights : Cond.static yL_setRights ∈ lw_tbl := tb (List.mem_of_getElem? (i := 423) (by decide +kernel))
set_option maxHeartbeats 4000000 in
set_option maxRecDepth 100000 in
theorem c_L_setRights {x1 : Int32} {b2 : Bool} {b3 : Bool} {b4 : Bool} {o9 : Oc} (hnt : l.stackTraces = false) (hw : WK w) (hD : DI M) (ho : wrR [xIOB] (oSetRights M G x1 b2 b3 b4) o9) : CT l yL_setRights [Cond.codeWith yL_setRights cL_setRights 7 (some .int) [(0, 14, 17, 21)]] 8 4 24 w [.ref (w.1 (2, 0)), .int x1, .int (bi b2), .int (bi b3), .int (bi b4), .ref (w.1 (40, 0))] M G o9 := by
  refine CTx_of hnt hw.1 mx_L_setRights (by simp [Value.category]) (Nat.le_of_ble_eq_true rfl) (fun p e s m args below meth c X => ?_)
  refine r_aload X dL_setRights_0 rfl ?_
  refine r_iconst X dL_setRights_2 (v := nI 0) (by decide) ?_
  refine r_aload_n X dL_setRights_3 (i := 0) rfl rfl ?_
  refine r_iload_n X dL_setRights_4 (i := 1) rfl rfl ?_
  refine r_iload_n X dL_setRights_5 (i := 2) rfl rfl ?_
  refine r_iload_n X dL_setRights_6 (i := 3) rfl rfl ?_
  refine r_iload X dL_setRights_7 rfl ?_
  refine r_callV X (c_X2_setRights (x := x1) (a9 := b2) (b9 := b3) (c9 := b4) hnt hw hD) mw_X2_setRights kc2 mi_X2_setRights (hw.2 _ _ (by decide)) ev2 ml_L_38 rfl rfl (Nat.le_of_ble_eq_true rfl) (by first | decide | (simp only [rmv]; omega)) (by first | decide | (simp only [rmv]; omega)) (by first | decide | (simp only [rmv]; omega)) (by first | decide | (simp only [rmv]; omega)) dL_setRights_9 (kw ho (fun k X9 M1 G1 hX hoW => ?_) (fun v M1 G1 hoW => ?_))
  · rcases k with _ | k
    · obtain rfl : xIOB = X9 := Option.some.inj hX
      refine r_catch X (nm := xIOB) [] ⟨0, 14, 17, 21⟩ [] rfl (fun z hz => absurd hz List.not_mem_nil) (by decide) (by decide) wl_21 wk_xIOB (fun q => ?_)
      refine r_astore X dL_setRights_17 (by decide) rfl ?_
      refine r_iconst X dL_setRights_19 (v := nI 1) (by decide) ?_
      exact r_iret X dL_setRights_20 (by simp) (by simp) hoW
    · exact absurd hX (by simp)
  · refine r_i2l X dL_setRights_12 ?_
    refine r_last0 X (hw.2 _ _ (by decide)) dL_setRights_13 ?_
    refine r_goto X dL_setRights_14 (tgt := 21) (by decide) ?_
    refine r_iconst X dL_setRights_21 (v := nI 0) (by decide) ?_
    exact r_iret X dL_setRights_22 (by simp) (by simp) hoW
theorem mx_L_setMinimum : MWx yL_setMinimum cL_setMinimum 5 (some .int) [(0, 10, 13, 21), (0, 10, 17, 13), (0, 10, 21, 45)] 4 := ⟨tb (List.mem_of_getElem? (i := 440) (by decide +kernel)), tb (List.mem_of_getElem? (i := 0) (by decide +kernel)), ⟨by decide +kernel, by decide +kernel⟩, by decide +kernel, by decide +kernel, by decide +kernel⟩
theorem ms_L_setMinimum : Cond.static yL_setMinimum ∈ lw_tbl := tb (List.mem_of_getElem? (i := 439) (by decide +kernel))
set_option maxHeartbeats 4000000 in
set_option maxRecDepth 100000 in
theorem c_L_setMinimum {x1 : Int32} {x2 : Int32} {o9 : Oc} (hnt : l.stackTraces = false) (hw : WK w) (hD : DI M) (ho : wrR [xIOB, xIAE, xUOE] (oSetMinimum M G x1 x2) o9) : CT l yL_setMinimum [Cond.codeWith yL_setMinimum cL_setMinimum 5 (some .int) [(0, 10, 13, 21), (0, 10, 17, 13), (0, 10, 21, 45)]] 8 4 24 w [.ref (w.1 (2, 0)), .int x1, .int x2, .ref (w.1 (40, 0))] M G o9 := by
  refine CTx_of hnt hw.1 mx_L_setMinimum (by simp [Value.category]) (Nat.le_of_ble_eq_true rfl) (fun p e s m args below meth c X => ?_)
  refine r_aload_n X dL_setMinimum_0 (i := 3) rfl rfl ?_
  refine r_iconst X dL_setMinimum_1 (v := nI 0) (by decide) ?_
  refine r_aload_n X dL_setMinimum_2 (i := 0) rfl rfl ?_
  refine r_iload_n X dL_setMinimum_3 (i := 1) rfl rfl ?_
  refine r_iload_n X dL_setMinimum_4 (i := 2) rfl rfl ?_
  refine r_callV X (c_X2_setMinimum (x := x1) (d9 := x2) hnt hw hD) mw_X2_setMinimum kc2 mi_X2_setMinimum (hw.2 _ _ (by decide)) ev2 ml_L_42 rfl rfl (Nat.le_of_ble_eq_true rfl) (by first | decide | (simp only [rmv]; omega)) (by first | decide | (simp only [rmv]; omega)) (by first | decide | (simp only [rmv]; omega)) (by first | decide | (simp only [rmv]; omega)) dL_setMinimum_5 (kw ho (fun k X9 M1 G1 hX hoW => ?_) (fun v M1 G1 hoW => ?_))
  · rcases k with _ | _ | _ | k
    · obtain rfl : xIOB = X9 := Option.some.inj hX
      refine r_catch X (nm := xIOB) [] ⟨0, 10, 13, 21⟩ [⟨0, 10, 17, 13⟩, ⟨0, 10, 21, 45⟩] rfl (fun z hz => absurd hz List.not_mem_nil) (by decide) (by decide) wl_21 wk_xIOB (fun q => ?_)
      refine r_astore X dL_setMinimum_13 (by decide) rfl ?_
      refine r_iconst X dL_setMinimum_15 (v := nI 1) (by decide) ?_
      exact r_iret X dL_setMinimum_16 (by simp) (by simp) hoW
    · obtain rfl : xIAE = X9 := Option.some.inj hX
      refine r_catch X (nm := xIAE) [⟨0, 10, 13, 21⟩] ⟨0, 10, 17, 13⟩ [⟨0, 10, 21, 45⟩] rfl (List.forall_mem_cons.mpr ⟨.inr ⟨by decide, xIOB, wl_21, by decide +kernel⟩, fun z hz => absurd hz List.not_mem_nil⟩) (by decide) (by decide) wl_13 wk_xIAE (fun q => ?_)
      refine r_astore X dL_setMinimum_17 (by decide) rfl ?_
      refine r_iconst X dL_setMinimum_19 (v := nI 2) (by decide) ?_
      exact r_iret X dL_setMinimum_20 (by simp) (by simp) hoW
    · obtain rfl : xUOE = X9 := Option.some.inj hX
      refine r_catch X (nm := xUOE) [⟨0, 10, 13, 21⟩, ⟨0, 10, 17, 13⟩] ⟨0, 10, 21, 45⟩ [] rfl (List.forall_mem_cons.mpr ⟨.inr ⟨by decide, xIOB, wl_21, by decide +kernel⟩, List.forall_mem_cons.mpr ⟨.inr ⟨by decide, xIAE, wl_13, by decide +kernel⟩, fun z hz => absurd hz List.not_mem_nil⟩⟩) (by decide) (by decide) wl_45 wk_xUOE (fun q => ?_)
      refine r_astore X dL_setMinimum_21 (by decide) rfl ?_
      refine r_iconst X dL_setMinimum_23 (v := nI 3) (by decide) ?_
      exact r_iret X dL_setMinimum_24 (by simp) (by simp) hoW
    · exact absurd hX (by simp)
  · refine r_i2l X dL_setMinimum_8 ?_
    refine r_last0 X (hw.2 _ _ (by decide)) dL_setMinimum_9 ?_
    refine r_goto X dL_setMinimum_10 (tgt := 25) (by decide) ?_
    refine r_iconst X dL_setMinimum_25 (v := nI 0) (by decide) ?_
    exact r_iret X dL_setMinimum_26 (by simp) (by simp) hoW
theorem mx_L_setPrice : MWx yL_setPrice cL_setPrice 5 (some .int) [(0, 10, 13, 21), (0, 10, 17, 13)] 4 := ⟨tb (List.mem_of_getElem? (i := 465) (by decide +kernel)), tb (List.mem_of_getElem? (i := 0) (by decide +kernel)), ⟨by decide +kernel, by decide +kernel⟩, by decide +kernel, by decide +kernel, by decide +kernel⟩
theorem ms_L_setPrice : Cond.static yL_setPrice ∈ lw_tbl := tb (List.mem_of_getElem? (i := 464) (by decide +kernel))
set_option maxHeartbeats 4000000 in
set_option maxRecDepth 100000 in
theorem c_L_setPrice {x1 : Int32} {x2 : Int32} {o9 : Oc} (hnt : l.stackTraces = false) (hw : WK w) (hD : DI M) (ho : wrR [xIOB, xIAE] (oSetPrice M G x1 x2) o9) : CT l yL_setPrice [Cond.codeWith yL_setPrice cL_setPrice 5 (some .int) [(0, 10, 13, 21), (0, 10, 17, 13)]] 8 4 24 w [.ref (w.1 (2, 0)), .int x1, .int x2, .ref (w.1 (40, 0))] M G o9 := by
  refine CTx_of hnt hw.1 mx_L_setPrice (by simp [Value.category]) (Nat.le_of_ble_eq_true rfl) (fun p e s m args below meth c X => ?_)
  refine r_aload_n X dL_setPrice_0 (i := 3) rfl rfl ?_
  refine r_iconst X dL_setPrice_1 (v := nI 0) (by decide) ?_
  refine r_aload_n X dL_setPrice_2 (i := 0) rfl rfl ?_
  refine r_iload_n X dL_setPrice_3 (i := 1) rfl rfl ?_
  refine r_iload_n X dL_setPrice_4 (i := 2) rfl rfl ?_
  refine r_callV X (c_X2_setPrice (x := x1) (d9 := x2) hnt hw hD) mw_X2_setPrice kc2 mi_X2_setPrice (hw.2 _ _ (by decide)) ev2 ml_L_47 rfl rfl (Nat.le_of_ble_eq_true rfl) (by first | decide | (simp only [rmv]; omega)) (by first | decide | (simp only [rmv]; omega)) (by first | decide | (simp only [rmv]; omega)) (by first | decide | (simp only [rmv]; omega)) dL_setPrice_5 (kw ho (fun k X9 M1 G1 hX hoW => ?_) (fun v M1 G1 hoW => ?_))
  · rcases k with _ | _ | k
    · obtain rfl : xIOB = X9 := Option.some.inj hX
      refine r_catch X (nm := xIOB) [] ⟨0, 10, 13, 21⟩ [⟨0, 10, 17, 13⟩] rfl (fun z hz => absurd hz List.not_mem_nil) (by decide) (by decide) wl_21 wk_xIOB (fun q => ?_)
      refine r_astore X dL_setPrice_13 (by decide) rfl ?_
      refine r_iconst X dL_setPrice_15 (v := nI 1) (by decide) ?_
      exact r_iret X dL_setPrice_16 (by simp) (by simp) hoW
    · obtain rfl : xIAE = X9 := Option.some.inj hX
      refine r_catch X (nm := xIAE) [⟨0, 10, 13, 21⟩] ⟨0, 10, 17, 13⟩ [] rfl (List.forall_mem_cons.mpr ⟨.inr ⟨by decide, xIOB, wl_21, by decide +kernel⟩, fun z hz => absurd hz List.not_mem_nil⟩) (by decide) (by decide) wl_13 wk_xIAE (fun q => ?_)
      refine r_astore X dL_setPrice_17 (by decide) rfl ?_
      refine r_iconst X dL_setPrice_19 (v := nI 2) (by decide) ?_
      exact r_iret X dL_setPrice_20 (by simp) (by simp) hoW
    · exact absurd hX (by simp)
  · refine r_i2l X dL_setPrice_8 ?_
    refine r_last0 X (hw.2 _ _ (by decide)) dL_setPrice_9 ?_
    refine r_goto X dL_setPrice_10 (tgt := 21) (by decide) ?_
    refine r_iconst X dL_setPrice_21 (v := nI 0) (by decide) ?_
    exact r_iret X dL_setPrice_22 (by simp) (by simp) hoW
theorem mx_L_addUnits : MWx yL_addUnits cL_addUnits 5 (some .int) [(0, 10, 13, 21), (0, 10, 17, 13), (0, 10, 21, 15)] 4 := ⟨tb (List.mem_of_getElem? (i := 473) (by decide +kernel)), tb (List.mem_of_getElem? (i := 0) (by decide +kernel)), ⟨by decide +kernel, by decide +kernel⟩, by decide +kernel, by decide +kernel, by decide +kernel⟩
theorem ms_L_addUnits : Cond.static yL_addUnits ∈ lw_tbl := tb (List.mem_of_getElem? (i := 472) (by decide +kernel))
set_option maxHeartbeats 4000000 in
set_option maxRecDepth 100000 in
theorem c_L_addUnits {x1 : Int32} {x2 : Int32} {o9 : Oc} (hnt : l.stackTraces = false) (hw : WK w) (hD : DI M) (ho : wrR [xIOB, xIAE, xISE] (oAddUnits M G x1 x2) o9) : CT l yL_addUnits [Cond.codeWith yL_addUnits cL_addUnits 5 (some .int) [(0, 10, 13, 21), (0, 10, 17, 13), (0, 10, 21, 15)]] 8 4 24 w [.ref (w.1 (2, 0)), .int x1, .int x2, .ref (w.1 (40, 0))] M G o9 := by
  refine CTx_of hnt hw.1 mx_L_addUnits (by simp [Value.category]) (Nat.le_of_ble_eq_true rfl) (fun p e s m args below meth c X => ?_)
  refine r_aload_n X dL_addUnits_0 (i := 3) rfl rfl ?_
  refine r_iconst X dL_addUnits_1 (v := nI 0) (by decide) ?_
  refine r_aload_n X dL_addUnits_2 (i := 0) rfl rfl ?_
  refine r_iload_n X dL_addUnits_3 (i := 1) rfl rfl ?_
  refine r_iload_n X dL_addUnits_4 (i := 2) rfl rfl ?_
  refine r_callV X (c_X2_addUnits (x := x1) (d9 := x2) hnt hw hD) mw_X2_addUnits kc2 mi_X2_addUnits (hw.2 _ _ (by decide)) ev2 ml_L_50 rfl rfl (Nat.le_of_ble_eq_true rfl) (by first | decide | (simp only [rmv]; omega)) (by first | decide | (simp only [rmv]; omega)) (by first | decide | (simp only [rmv]; omega)) (by first | decide | (simp only [rmv]; omega)) dL_addUnits_5 (kw ho (fun k X9 M1 G1 hX hoW => ?_) (fun v M1 G1 hoW => ?_))
  · rcases k with _ | _ | _ | k
    · obtain rfl : xIOB = X9 := Option.some.inj hX
      refine r_catch X (nm := xIOB) [] ⟨0, 10, 13, 21⟩ [⟨0, 10, 17, 13⟩, ⟨0, 10, 21, 15⟩] rfl (fun z hz => absurd hz List.not_mem_nil) (by decide) (by decide) wl_21 wk_xIOB (fun q => ?_)
      refine r_astore X dL_addUnits_13 (by decide) rfl ?_
      refine r_iconst X dL_addUnits_15 (v := nI 1) (by decide) ?_
      exact r_iret X dL_addUnits_16 (by simp) (by simp) hoW
    · obtain rfl : xIAE = X9 := Option.some.inj hX
      refine r_catch X (nm := xIAE) [⟨0, 10, 13, 21⟩] ⟨0, 10, 17, 13⟩ [⟨0, 10, 21, 15⟩] rfl (List.forall_mem_cons.mpr ⟨.inr ⟨by decide, xIOB, wl_21, by decide +kernel⟩, fun z hz => absurd hz List.not_mem_nil⟩) (by decide) (by decide) wl_13 wk_xIAE (fun q => ?_)
      refine r_astore X dL_addUnits_17 (by decide) rfl ?_
      refine r_iconst X dL_addUnits_19 (v := nI 2) (by decide) ?_
      exact r_iret X dL_addUnits_20 (by simp) (by simp) hoW
    · obtain rfl : xISE = X9 := Option.some.inj hX
      refine r_catch X (nm := xISE) [⟨0, 10, 13, 21⟩, ⟨0, 10, 17, 13⟩] ⟨0, 10, 21, 15⟩ [] rfl (List.forall_mem_cons.mpr ⟨.inr ⟨by decide, xIOB, wl_21, by decide +kernel⟩, List.forall_mem_cons.mpr ⟨.inr ⟨by decide, xIAE, wl_13, by decide +kernel⟩, fun z hz => absurd hz List.not_mem_nil⟩⟩) (by decide) (by decide) wl_15 wk_xISE (fun q => ?_)
      refine r_astore X dL_addUnits_21 (by decide) rfl ?_
      refine r_iconst X dL_addUnits_23 (v := nI 3) (by decide) ?_
      exact r_iret X dL_addUnits_24 (by simp) (by simp) hoW
    · exact absurd hX (by simp)
  · refine r_i2l X dL_addUnits_8 ?_
    refine r_last0 X (hw.2 _ _ (by decide)) dL_addUnits_9 ?_
    refine r_goto X dL_addUnits_10 (tgt := 25) (by decide) ?_
    refine r_iconst X dL_addUnits_25 (v := nI 0) (by decide) ?_
    exact r_iret X dL_addUnits_26 (by simp) (by simp) hoW
theorem mx_L_units : MWx yL_units cL_units 4 (some .int) [(0, 9, 12, 21)] 3 := ⟨tb (List.mem_of_getElem? (i := 482) (by decide +kernel)), tb (List.mem_of_getElem? (i := 0) (by decide +kernel)), ⟨by decide +kernel, by decide +kernel⟩, by decide +kernel, by decide +kernel, by decide +kernel⟩
theorem ms_L_units : Cond.static yL_units ∈ lw_tbl := tb (List.mem_of_getElem? (i := 481) (by decide +kernel))
set_option maxHeartbeats 4000000 in
set_option maxRecDepth 100000 in
theorem c_L_units {x1 : Int32} {o9 : Oc} (hnt : l.stackTraces = false) (hw : WK w) (hD : DI M) (ho : wrR [xIOB] (oUnits M G x1) o9) : CT l yL_units [Cond.codeWith yL_units cL_units 4 (some .int) [(0, 9, 12, 21)]] 8 4 24 w [.ref (w.1 (2, 0)), .int x1, .ref (w.1 (40, 0))] M G o9 := by
  refine CTx_of hnt hw.1 mx_L_units (by simp [Value.category]) (Nat.le_of_ble_eq_true rfl) (fun p e s m args below meth c X => ?_)
  refine r_aload_n X dL_units_0 (i := 2) rfl rfl ?_
  refine r_iconst X dL_units_1 (v := nI 0) (by decide) ?_
  refine r_aload_n X dL_units_2 (i := 0) rfl rfl ?_
  refine r_iload_n X dL_units_3 (i := 1) rfl rfl ?_
  refine r_callV X (c_X2_units (x := x1) hnt hw hD) mw_X2_units kc2 mi_X2_units (hw.2 _ _ (by decide)) ev2 ml_L_53 rfl rfl (Nat.le_of_ble_eq_true rfl) (by first | decide | (simp only [rmv]; omega)) (by first | decide | (simp only [rmv]; omega)) (by first | decide | (simp only [rmv]; omega)) (by first | decide | (simp only [rmv]; omega)) dL_units_4 (kw ho (fun k X9 M1 G1 hX hoW => ?_) (fun v M1 G1 hoW => ?_))
  · rcases k with _ | k
    · obtain rfl : xIOB = X9 := Option.some.inj hX
      refine r_catch X (nm := xIOB) [] ⟨0, 9, 12, 21⟩ [] rfl (fun z hz => absurd hz List.not_mem_nil) (by decide) (by decide) wl_21 wk_xIOB (fun q => ?_)
      refine r_astore_n X dL_units_12 (i := 3) rfl (by decide) rfl ?_
      refine r_iconst X dL_units_13 (v := nI 1) (by decide) ?_
      exact r_iret X dL_units_14 (by simp) (by simp) hoW
    · exact absurd hX (by simp)
  · refine r_i2l X dL_units_7 ?_
    refine r_last0 X (hw.2 _ _ (by decide)) dL_units_8 ?_
    refine r_goto X dL_units_9 (tgt := 15) (by decide) ?_
    refine r_iconst X dL_units_15 (v := nI 0) (by decide) ?_
    exact r_iret X dL_units_16 (by simp) (by simp) hoW
theorem mx_L_why : MWx yL_why cL_why 5 (some .int) [(0, 10, 13, 21)] 4 := ⟨tb (List.mem_of_getElem? (i := 489) (by decide +kernel)), tb (List.mem_of_getElem? (i := 0) (by decide +kernel)), ⟨by decide +kernel, by decide +kernel⟩, by decide +kernel, by decide +kernel, by decide +kernel⟩
theorem ms_L_why : Cond.static yL_why ∈ lw_tbl := tb (List.mem_of_getElem? (i := 488) (by decide +kernel))
set_option maxHeartbeats 4000000 in
set_option maxRecDepth 100000 in
theorem c_L_why {x1 : Int32} {x2 : Int32} {o9 : Oc} (hnt : l.stackTraces = false) (hw : WK w) (hD : DI M) (ho : wrR [xIOB] (oWhy M G x1 x2) o9) : CT l yL_why [Cond.codeWith yL_why cL_why 5 (some .int) [(0, 10, 13, 21)]] 8 4 24 w [.ref (w.1 (2, 0)), .int x1, .int x2, .ref (w.1 (40, 0))] M G o9 := by
  refine CTx_of hnt hw.1 mx_L_why (by simp [Value.category]) (Nat.le_of_ble_eq_true rfl) (fun p e s m args below meth c X => ?_)
  refine r_aload_n X dL_why_0 (i := 3) rfl rfl ?_
  refine r_iconst X dL_why_1 (v := nI 0) (by decide) ?_
  refine r_aload_n X dL_why_2 (i := 0) rfl rfl ?_
  refine r_iload_n X dL_why_3 (i := 1) rfl rfl ?_
  refine r_iload_n X dL_why_4 (i := 2) rfl rfl ?_
  refine r_callV X (c_X2_why (x := x1) (y := x2) hnt hw hD) mw_X2_why kc2 mi_X2_why (hw.2 _ _ (by decide)) ev2 ml_L_56 rfl rfl (Nat.le_of_ble_eq_true rfl) (by first | decide | (simp only [rmv]; omega)) (by first | decide | (simp only [rmv]; omega)) (by first | decide | (simp only [rmv]; omega)) (by first | decide | (simp only [rmv]; omega)) dL_why_5 (kw ho (fun k X9 M1 G1 hX hoW => ?_) (fun v M1 G1 hoW => ?_))
  · rcases k with _ | k
    · obtain rfl : xIOB = X9 := Option.some.inj hX
      refine r_catch X (nm := xIOB) [] ⟨0, 10, 13, 21⟩ [] rfl (fun z hz => absurd hz List.not_mem_nil) (by decide) (by decide) wl_21 wk_xIOB (fun q => ?_)
      refine r_astore X dL_why_13 (by decide) rfl ?_
      refine r_iconst X dL_why_15 (v := nI 1) (by decide) ?_
      exact r_iret X dL_why_16 (by simp) (by simp) hoW
    · exact absurd hX (by simp)
  · refine r_i2l X dL_why_8 ?_
    refine r_last0 X (hw.2 _ _ (by decide)) dL_why_9 ?_
    refine r_goto X dL_why_10 (tgt := 17) (by decide) ?_
    refine r_iconst X dL_why_17 (v := nI 0) (by decide) ?_
    exact r_iret X dL_why_18 (by simp) (by simp) hoW
theorem mx_L_fitting : MWx yL_fitting cL_fitting 4 (some .int) [(0, 9, 12, 21)] 3 := ⟨tb (List.mem_of_getElem? (i := 497) (by decide +kernel)), tb (List.mem_of_getElem? (i := 0) (by decide +kernel)), ⟨by decide +kernel, by decide +kernel⟩, by decide +kernel, by decide +kernel, by decide +kernel⟩
theorem ms_L_fitting : Cond.static yL_fitting ∈ lw_tbl := tb (List.mem_of_getElem? (i := 496) (by decide +kernel))
set_option maxHeartbeats 4000000 in
set_option maxRecDepth 100000 in
theorem c_L_fitting {x1 : Int32} {o9 : Oc} (hnt : l.stackTraces = false) (hw : WK w) (hD : DI M) (ho : wrR [xIOB] (oFitting M G x1) o9) : CT l yL_fitting [Cond.codeWith yL_fitting cL_fitting 4 (some .int) [(0, 9, 12, 21)]] 8 4 24 w [.ref (w.1 (2, 0)), .int x1, .ref (w.1 (40, 0))] M G o9 := by
  refine CTx_of hnt hw.1 mx_L_fitting (by simp [Value.category]) (Nat.le_of_ble_eq_true rfl) (fun p e s m args below meth c X => ?_)
  refine r_aload_n X dL_fitting_0 (i := 2) rfl rfl ?_
  refine r_iconst X dL_fitting_1 (v := nI 0) (by decide) ?_
  refine r_aload_n X dL_fitting_2 (i := 0) rfl rfl ?_
  refine r_iload_n X dL_fitting_3 (i := 1) rfl rfl ?_
  refine r_callV X (c_X2_fitting (x := x1) hnt hw) mw_X2_fitting kc2 mi_X2_fitting (hw.2 _ _ (by decide)) ev2 ml_L_60 rfl rfl (Nat.le_of_ble_eq_true rfl) (by first | decide | (simp only [rmv]; omega)) (by first | decide | (simp only [rmv]; omega)) (by first | decide | (simp only [rmv]; omega)) (by first | decide | (simp only [rmv]; omega)) dL_fitting_4 (kw ho (fun k X9 M1 G1 hX hoW => ?_) (fun v M1 G1 hoW => ?_))
  · rcases k with _ | k
    · obtain rfl : xIOB = X9 := Option.some.inj hX
      refine r_catch X (nm := xIOB) [] ⟨0, 9, 12, 21⟩ [] rfl (fun z hz => absurd hz List.not_mem_nil) (by decide) (by decide) wl_21 wk_xIOB (fun q => ?_)
      refine r_astore_n X dL_fitting_12 (i := 3) rfl (by decide) rfl ?_
      refine r_iconst X dL_fitting_13 (v := nI 1) (by decide) ?_
      exact r_iret X dL_fitting_14 (by simp) (by simp) hoW
    · exact absurd hX (by simp)
  · refine r_i2l X dL_fitting_7 ?_
    refine r_last0 X (hw.2 _ _ (by decide)) dL_fitting_8 ?_
    refine r_goto X dL_fitting_9 (tgt := 15) (by decide) ?_
    refine r_iconst X dL_fitting_15 (v := nI 0) (by decide) ?_
    exact r_iret X dL_fitting_16 (by simp) (by simp) hoW
theorem mx_L_firstFitting : MWx yL_firstFitting cL_firstFitting 4 (some .int) [(0, 9, 12, 21), (0, 9, 15, 66)] 3 := ⟨tb (List.mem_of_getElem? (i := 504) (by decide +kernel)), tb (List.mem_of_getElem? (i := 0) (by decide +kernel)), ⟨by decide +kernel, by decide +kernel⟩, by decide +kernel, by decide +kernel, by decide +kernel⟩
theorem ms_L_firstFitting : Cond.static yL_firstFitting ∈ lw_tbl := tb (List.mem_of_getElem? (i := 503) (by decide +kernel))
set_option maxHeartbeats 4000000 in
set_option maxRecDepth 100000 in
theorem c_L_firstFitting {x1 : Int32} {o9 : Oc} (hnt : l.stackTraces = false) (hw : WK w) (hD : DI M) (ho : wrR [xIOB, xNSE] (oFirst M G x1) o9) : CT l yL_firstFitting [Cond.codeWith yL_firstFitting cL_firstFitting 4 (some .int) [(0, 9, 12, 21), (0, 9, 15, 66)]] 8 4 24 w [.ref (w.1 (2, 0)), .int x1, .ref (w.1 (40, 0))] M G o9 := by
  refine CTx_of hnt hw.1 mx_L_firstFitting (by simp [Value.category]) (Nat.le_of_ble_eq_true rfl) (fun p e s m args below meth c X => ?_)
  refine r_aload_n X dL_firstFitting_0 (i := 2) rfl rfl ?_
  refine r_iconst X dL_firstFitting_1 (v := nI 0) (by decide) ?_
  refine r_aload_n X dL_firstFitting_2 (i := 0) rfl rfl ?_
  refine r_iload_n X dL_firstFitting_3 (i := 1) rfl rfl ?_
  refine r_callV X (c_X2_firstFitting (x := x1) hnt hw) mw_X2_firstFitting kc2 mi_X2_firstFitting (hw.2 _ _ (by decide)) ev2 ml_L_63 rfl rfl (Nat.le_of_ble_eq_true rfl) (by first | decide | (simp only [rmv]; omega)) (by first | decide | (simp only [rmv]; omega)) (by first | decide | (simp only [rmv]; omega)) (by first | decide | (simp only [rmv]; omega)) dL_firstFitting_4 (kw ho (fun k X9 M1 G1 hX hoW => ?_) (fun v M1 G1 hoW => ?_))
  · rcases k with _ | _ | k
    · obtain rfl : xIOB = X9 := Option.some.inj hX
      refine r_catch X (nm := xIOB) [] ⟨0, 9, 12, 21⟩ [⟨0, 9, 15, 66⟩] rfl (fun z hz => absurd hz List.not_mem_nil) (by decide) (by decide) wl_21 wk_xIOB (fun q => ?_)
      refine r_astore_n X dL_firstFitting_12 (i := 3) rfl (by decide) rfl ?_
      refine r_iconst X dL_firstFitting_13 (v := nI 1) (by decide) ?_
      exact r_iret X dL_firstFitting_14 (by simp) (by simp) hoW
    · obtain rfl : xNSE = X9 := Option.some.inj hX
      refine r_catch X (nm := xNSE) [⟨0, 9, 12, 21⟩] ⟨0, 9, 15, 66⟩ [] rfl (List.forall_mem_cons.mpr ⟨.inr ⟨by decide, xIOB, wl_21, by decide +kernel⟩, fun z hz => absurd hz List.not_mem_nil⟩) (by decide) (by decide) wl_66 wk_xNSE (fun q => ?_)
      refine r_astore_n X dL_firstFitting_15 (i := 3) rfl (by decide) rfl ?_
      refine r_iconst X dL_firstFitting_16 (v := nI 2) (by decide) ?_
      exact r_iret X dL_firstFitting_17 (by simp) (by simp) hoW
    · exact absurd hX (by simp)
  · refine r_i2l X dL_firstFitting_7 ?_
    refine r_last0 X (hw.2 _ _ (by decide)) dL_firstFitting_8 ?_
    refine r_goto X dL_firstFitting_9 (tgt := 18) (by decide) ?_
    refine r_iconst X dL_firstFitting_18 (v := nI 0) (by decide) ?_
    exact r_iret X dL_firstFitting_19 (by simp) (by simp) hoW
theorem mx_L_unitsForAll : MWx yL_unitsForAll cL_unitsForAll 4 (some .int) [(0, 9, 12, 21)] 3 := ⟨tb (List.mem_of_getElem? (i := 528) (by decide +kernel)), tb (List.mem_of_getElem? (i := 0) (by decide +kernel)), ⟨by decide +kernel, by decide +kernel⟩, by decide +kernel, by decide +kernel, by decide +kernel⟩
theorem ms_L_unitsForAll : Cond.static yL_unitsForAll ∈ lw_tbl := tb (List.mem_of_getElem? (i := 527) (by decide +kernel))
set_option maxHeartbeats 4000000 in
set_option maxRecDepth 100000 in
theorem c_L_unitsForAll {x1 : Int32} {o9 : Oc} (hnt : l.stackTraces = false) (hw : WK w) (hD : DI M) (ho : wrR [xIOB] (oUFA M G x1) o9) : CT l yL_unitsForAll [Cond.codeWith yL_unitsForAll cL_unitsForAll 4 (some .int) [(0, 9, 12, 21)]] 8 4 24 w [.ref (w.1 (2, 0)), .int x1, .ref (w.1 (40, 0))] M G o9 := by
  refine CTx_of hnt hw.1 mx_L_unitsForAll (by simp [Value.category]) (Nat.le_of_ble_eq_true rfl) (fun p e s m args below meth c X => ?_)
  refine r_aload_n X dL_unitsForAll_0 (i := 2) rfl rfl ?_
  refine r_iconst X dL_unitsForAll_1 (v := nI 0) (by decide) ?_
  refine r_aload_n X dL_unitsForAll_2 (i := 0) rfl rfl ?_
  refine r_iload_n X dL_unitsForAll_3 (i := 1) rfl rfl ?_
  refine r_callV X (c_X2_unitsForAll (x := x1) hnt hw hD) mw_X2_unitsForAll kc2 mi_X2_unitsForAll (hw.2 _ _ (by decide)) ev2 ml_L_68 rfl rfl (Nat.le_of_ble_eq_true rfl) (by first | decide | (simp only [rmv]; omega)) (by first | decide | (simp only [rmv]; omega)) (by first | decide | (simp only [rmv]; omega)) (by first | decide | (simp only [rmv]; omega)) dL_unitsForAll_4 (kw ho (fun k X9 M1 G1 hX hoW => ?_) (fun v M1 G1 hoW => ?_))
  · rcases k with _ | k
    · obtain rfl : xIOB = X9 := Option.some.inj hX
      refine r_catch X (nm := xIOB) [] ⟨0, 9, 12, 21⟩ [] rfl (fun z hz => absurd hz List.not_mem_nil) (by decide) (by decide) wl_21 wk_xIOB (fun q => ?_)
      refine r_astore_n X dL_unitsForAll_12 (i := 3) rfl (by decide) rfl ?_
      refine r_iconst X dL_unitsForAll_13 (v := nI 1) (by decide) ?_
      exact r_iret X dL_unitsForAll_14 (by simp) (by simp) hoW
    · exact absurd hX (by simp)
  · refine r_i2l X dL_unitsForAll_7 ?_
    refine r_last0 X (hw.2 _ _ (by decide)) dL_unitsForAll_8 ?_
    refine r_goto X dL_unitsForAll_9 (tgt := 15) (by decide) ?_
    refine r_iconst X dL_unitsForAll_15 (v := nI 0) (by decide) ?_
    exact r_iret X dL_unitsForAll_16 (by simp) (by simp) hoW
theorem mx_L_coveredByTrying : MWx yL_coveredByTrying cL_coveredByTrying 3 (some .int) [(0, 8, 11, 45)] 2 := ⟨tb (List.mem_of_getElem? (i := 535) (by decide +kernel)), tb (List.mem_of_getElem? (i := 0) (by decide +kernel)), ⟨by decide +kernel, by decide +kernel⟩, by decide +kernel, by decide +kernel, by decide +kernel⟩
theorem ms_L_coveredByTrying : Cond.static yL_coveredByTrying ∈ lw_tbl := tb (List.mem_of_getElem? (i := 534) (by decide +kernel))
set_option maxHeartbeats 4000000 in
set_option maxRecDepth 100000 in
theorem c_L_coveredByTrying  {o9 : Oc} (hnt : l.stackTraces = false) (hw : WK w) (hD : DI M) (ho : wrR [xUOE] (oCT M G) o9) : CT l yL_coveredByTrying [Cond.codeWith yL_coveredByTrying cL_coveredByTrying 3 (some .int) [(0, 8, 11, 45)]] 25 4 24 w [.ref (w.1 (2, 0)), .ref (w.1 (40, 0))] M G o9 := by
  refine CTx_of hnt hw.1 mx_L_coveredByTrying (by simp [Value.category]) (Nat.le_of_ble_eq_true rfl) (fun p e s m args below meth c X => ?_)
  refine r_aload_n X dL_coveredByTrying_0 (i := 1) rfl rfl ?_
  refine r_iconst X dL_coveredByTrying_1 (v := nI 0) (by decide) ?_
  refine r_aload_n X dL_coveredByTrying_2 (i := 0) rfl rfl ?_
  refine r_callV X (c_X2_coveredByTrying  hnt hw hD) mw_X2_coveredByTrying kc2 mi_X2_coveredByTrying (hw.2 _ _ (by decide)) ev2 ml_L_71 rfl rfl (Nat.le_of_ble_eq_true rfl) (by first | decide | (simp only [rmv]; omega)) (by first | decide | (simp only [rmv]; omega)) (by first | decide | (simp only [rmv]; omega)) (by first | decide | (simp only [rmv]; omega)) dL_coveredByTrying_3 (kw ho (fun k X9 M1 G1 hX hoW => ?_) (fun v M1 G1 hoW => ?_))
  · rcases k with _ | k
    · obtain rfl : xUOE = X9 := Option.some.inj hX
      refine r_catch X (nm := xUOE) [] ⟨0, 8, 11, 45⟩ [] rfl (fun z hz => absurd hz List.not_mem_nil) (by decide) (by decide) wl_45 wk_xUOE (fun q => ?_)
      refine r_astore_n X dL_coveredByTrying_11 (i := 2) rfl (by decide) rfl ?_
      refine r_iconst X dL_coveredByTrying_12 (v := nI 1) (by decide) ?_
      exact r_iret X dL_coveredByTrying_13 (by simp) (by simp) hoW
    · exact absurd hX (by simp)
  · refine r_i2l X dL_coveredByTrying_6 ?_
    refine r_last0 X (hw.2 _ _ (by decide)) dL_coveredByTrying_7 ?_
    refine r_goto X dL_coveredByTrying_8 (tgt := 14) (by decide) ?_
    refine r_iconst X dL_coveredByTrying_14 (v := nI 0) (by decide) ?_
    exact r_iret X dL_coveredByTrying_15 (by simp) (by simp) hoW
theorem mx_L_entitlementOf : MWx yL_entitlementOf cL_entitlementOf 4 (some .int) [(0, 9, 12, 21), (0, 9, 15, 66)] 3 := ⟨tb (List.mem_of_getElem? (i := 554) (by decide +kernel)), tb (List.mem_of_getElem? (i := 0) (by decide +kernel)), ⟨by decide +kernel, by decide +kernel⟩, by decide +kernel, by decide +kernel, by decide +kernel⟩
theorem ms_L_entitlementOf : Cond.static yL_entitlementOf ∈ lw_tbl := tb (List.mem_of_getElem? (i := 553) (by decide +kernel))
set_option maxHeartbeats 4000000 in
set_option maxRecDepth 100000 in
theorem c_L_entitlementOf {x1 : Int32} {o9 : Oc} (hnt : l.stackTraces = false) (hw : WK w) (hD : DI M) (ho : wrR [xIOB, xNSE] (oEOf M G x1) o9) : CT l yL_entitlementOf [Cond.codeWith yL_entitlementOf cL_entitlementOf 4 (some .int) [(0, 9, 12, 21), (0, 9, 15, 66)]] 26 8 48 w [.ref (w.1 (2, 0)), .int x1, .ref (w.1 (40, 0))] M G o9 := by
  refine CTx_of hnt hw.1 mx_L_entitlementOf (by simp [Value.category]) (Nat.le_of_ble_eq_true rfl) (fun p e s m args below meth c X => ?_)
  refine r_aload_n X dL_entitlementOf_0 (i := 2) rfl rfl ?_
  refine r_iconst X dL_entitlementOf_1 (v := nI 0) (by decide) ?_
  refine r_aload_n X dL_entitlementOf_2 (i := 0) rfl rfl ?_
  refine r_iload_n X dL_entitlementOf_3 (i := 1) rfl rfl ?_
  refine r_callV X (c_X2_entitlementOf (x := x1) hnt hw hD) mw_X2_entitlementOf kc2 mi_X2_entitlementOf (hw.2 _ _ (by decide)) ev2 ml_L_75 rfl rfl (Nat.le_of_ble_eq_true rfl) (by first | decide | (simp only [rmv]; omega)) (by first | decide | (simp only [rmv]; omega)) (by first | decide | (simp only [rmv]; omega)) (by first | decide | (simp only [rmv]; omega)) dL_entitlementOf_4 (kw ho (fun k X9 M1 G1 hX hoW => ?_) (fun v M1 G1 hoW => ?_))
  · rcases k with _ | _ | k
    · obtain rfl : xIOB = X9 := Option.some.inj hX
      refine r_catch X (nm := xIOB) [] ⟨0, 9, 12, 21⟩ [⟨0, 9, 15, 66⟩] rfl (fun z hz => absurd hz List.not_mem_nil) (by decide) (by decide) wl_21 wk_xIOB (fun q => ?_)
      refine r_astore_n X dL_entitlementOf_12 (i := 3) rfl (by decide) rfl ?_
      refine r_iconst X dL_entitlementOf_13 (v := nI 1) (by decide) ?_
      exact r_iret X dL_entitlementOf_14 (by simp) (by simp) hoW
    · obtain rfl : xNSE = X9 := Option.some.inj hX
      refine r_catch X (nm := xNSE) [⟨0, 9, 12, 21⟩] ⟨0, 9, 15, 66⟩ [] rfl (List.forall_mem_cons.mpr ⟨.inr ⟨by decide, xIOB, wl_21, by decide +kernel⟩, fun z hz => absurd hz List.not_mem_nil⟩) (by decide) (by decide) wl_66 wk_xNSE (fun q => ?_)
      refine r_astore_n X dL_entitlementOf_15 (i := 3) rfl (by decide) rfl ?_
      refine r_iconst X dL_entitlementOf_16 (v := nI 2) (by decide) ?_
      exact r_iret X dL_entitlementOf_17 (by simp) (by simp) hoW
    · exact absurd hX (by simp)
  · refine r_i2l X dL_entitlementOf_7 ?_
    refine r_last0 X (hw.2 _ _ (by decide)) dL_entitlementOf_8 ?_
    refine r_goto X dL_entitlementOf_9 (tgt := 18) (by decide) ?_
    refine r_iconst X dL_entitlementOf_18 (v := nI 0) (by decide) ?_
    exact r_iret X dL_entitlementOf_19 (by simp) (by simp) hoW
theorem mx_L_reason : MWx yL_reason cL_reason 4 (some .int) [(0, 9, 12, 21)] 3 := ⟨tb (List.mem_of_getElem? (i := 566) (by decide +kernel)), tb (List.mem_of_getElem? (i := 0) (by decide +kernel)), ⟨by decide +kernel, by decide +kernel⟩, by decide +kernel, by decide +kernel, by decide +kernel⟩
theorem ms_L_reason : Cond.static yL_reason ∈ lw_tbl := tb (List.mem_of_getElem? (i := 565) (by decide +kernel))
set_option maxHeartbeats 4000000 in
set_option maxRecDepth 100000 in
theorem c_L_reason {x1 : Int32} {o9 : Oc} (hnt : l.stackTraces = false) (hw : WK w) (hD : DI M) (ho : wrR [xIOB] (oReason M G x1) o9) : CT l yL_reason [Cond.codeWith yL_reason cL_reason 4 (some .int) [(0, 9, 12, 21)]] 26 16 96 w [.ref (w.1 (2, 0)), .int x1, .ref (w.1 (40, 0))] M G o9 := by
  refine CTx_of hnt hw.1 mx_L_reason (by simp [Value.category]) (Nat.le_of_ble_eq_true rfl) (fun p e s m args below meth c X => ?_)
  refine r_aload_n X dL_reason_0 (i := 2) rfl rfl ?_
  refine r_iconst X dL_reason_1 (v := nI 0) (by decide) ?_
  refine r_aload_n X dL_reason_2 (i := 0) rfl rfl ?_
  refine r_iload_n X dL_reason_3 (i := 1) rfl rfl ?_
  refine r_callV X (c_X2_reason (x := x1) hnt hw hD) mw_X2_reason kc2 mi_X2_reason (hw.2 _ _ (by decide)) ev2 ml_L_78 rfl rfl (Nat.le_of_ble_eq_true rfl) (by first | decide | (simp only [rmv]; omega)) (by first | decide | (simp only [rmv]; omega)) (by first | decide | (simp only [rmv]; omega)) (by first | decide | (simp only [rmv]; omega)) dL_reason_4 (kw ho (fun k X9 M1 G1 hX hoW => ?_) (fun v M1 G1 hoW => ?_))
  · rcases k with _ | k
    · obtain rfl : xIOB = X9 := Option.some.inj hX
      refine r_catch X (nm := xIOB) [] ⟨0, 9, 12, 21⟩ [] rfl (fun z hz => absurd hz List.not_mem_nil) (by decide) (by decide) wl_21 wk_xIOB (fun q => ?_)
      refine r_astore_n X dL_reason_12 (i := 3) rfl (by decide) rfl ?_
      refine r_iconst X dL_reason_13 (v := nI 1) (by decide) ?_
      exact r_iret X dL_reason_14 (by simp) (by simp) hoW
    · exact absurd hX (by simp)
  · refine r_i2l X dL_reason_7 ?_
    refine r_last0 X (hw.2 _ _ (by decide)) dL_reason_8 ?_
    refine r_goto X dL_reason_9 (tgt := 15) (by decide) ?_
    refine r_iconst X dL_reason_15 (v := nI 0) (by decide) ?_
    exact r_iret X dL_reason_16 (by simp) (by simp) hoW
theorem mx_L_used : MWx yL_used cL_used 4 (some .int) [(0, 9, 12, 21)] 3 := ⟨tb (List.mem_of_getElem? (i := 574) (by decide +kernel)), tb (List.mem_of_getElem? (i := 0) (by decide +kernel)), ⟨by decide +kernel, by decide +kernel⟩, by decide +kernel, by decide +kernel, by decide +kernel⟩
theorem ms_L_used : Cond.static yL_used ∈ lw_tbl := tb (List.mem_of_getElem? (i := 573) (by decide +kernel))
set_option maxHeartbeats 4000000 in
set_option maxRecDepth 100000 in
theorem c_L_used {x1 : Int32} {o9 : Oc} (hnt : l.stackTraces = false) (hw : WK w) (hD : DI M) (ho : wrR [xIOB] (oUsed M G x1) o9) : CT l yL_used [Cond.codeWith yL_used cL_used 4 (some .int) [(0, 9, 12, 21)]] 25 4 24 w [.ref (w.1 (2, 0)), .int x1, .ref (w.1 (40, 0))] M G o9 := by
  refine CTx_of hnt hw.1 mx_L_used (by simp [Value.category]) (Nat.le_of_ble_eq_true rfl) (fun p e s m args below meth c X => ?_)
  refine r_aload_n X dL_used_0 (i := 2) rfl rfl ?_
  refine r_iconst X dL_used_1 (v := nI 0) (by decide) ?_
  refine r_aload_n X dL_used_2 (i := 0) rfl rfl ?_
  refine r_iload_n X dL_used_3 (i := 1) rfl rfl ?_
  refine r_callV X (c_X2_used (x := x1) hnt hw hD) mw_X2_used kc2 mi_X2_used (hw.2 _ _ (by decide)) ev2 ml_L_82 rfl rfl (Nat.le_of_ble_eq_true rfl) (by first | decide | (simp only [rmv]; omega)) (by first | decide | (simp only [rmv]; omega)) (by first | decide | (simp only [rmv]; omega)) (by first | decide | (simp only [rmv]; omega)) dL_used_4 (kw ho (fun k X9 M1 G1 hX hoW => ?_) (fun v M1 G1 hoW => ?_))
  · rcases k with _ | k
    · obtain rfl : xIOB = X9 := Option.some.inj hX
      refine r_catch X (nm := xIOB) [] ⟨0, 9, 12, 21⟩ [] rfl (fun z hz => absurd hz List.not_mem_nil) (by decide) (by decide) wl_21 wk_xIOB (fun q => ?_)
      refine r_astore_n X dL_used_12 (i := 3) rfl (by decide) rfl ?_
      refine r_iconst X dL_used_13 (v := nI 1) (by decide) ?_
      exact r_iret X dL_used_14 (by simp) (by simp) hoW
    · exact absurd hX (by simp)
  · refine r_i2l X dL_used_7 ?_
    refine r_last0 X (hw.2 _ _ (by decide)) dL_used_8 ?_
    refine r_goto X dL_used_9 (tgt := 15) (by decide) ?_
    refine r_iconst X dL_used_15 (v := nI 0) (by decide) ?_
    exact r_iret X dL_used_16 (by simp) (by simp) hoW
theorem mx_L_spare : MWx yL_spare cL_spare 4 (some .int) [(0, 9, 12, 21)] 3 := ⟨tb (List.mem_of_getElem? (i := 585) (by decide +kernel)), tb (List.mem_of_getElem? (i := 0) (by decide +kernel)), ⟨by decide +kernel, by decide +kernel⟩, by decide +kernel, by decide +kernel, by decide +kernel⟩
theorem ms_L_spare : Cond.static yL_spare ∈ lw_tbl := tb (List.mem_of_getElem? (i := 584) (by decide +kernel))
set_option maxHeartbeats 4000000 in
set_option maxRecDepth 100000 in
theorem c_L_spare {x1 : Int32} {o9 : Oc} (hnt : l.stackTraces = false) (hw : WK w) (hD : DI M) (ho : wrR [xIOB] (oSpare M G x1) o9) : CT l yL_spare [Cond.codeWith yL_spare cL_spare 4 (some .int) [(0, 9, 12, 21)]] 26 16 96 w [.ref (w.1 (2, 0)), .int x1, .ref (w.1 (40, 0))] M G o9 := by
  refine CTx_of hnt hw.1 mx_L_spare (by simp [Value.category]) (Nat.le_of_ble_eq_true rfl) (fun p e s m args below meth c X => ?_)
  refine r_aload_n X dL_spare_0 (i := 2) rfl rfl ?_
  refine r_iconst X dL_spare_1 (v := nI 0) (by decide) ?_
  refine r_aload_n X dL_spare_2 (i := 0) rfl rfl ?_
  refine r_iload_n X dL_spare_3 (i := 1) rfl rfl ?_
  refine r_callV X (c_X2_spare (x := x1) hnt hw hD) mw_X2_spare kc2 mi_X2_spare (hw.2 _ _ (by decide)) ev2 ml_L_85 rfl rfl (Nat.le_of_ble_eq_true rfl) (by first | decide | (simp only [rmv]; omega)) (by first | decide | (simp only [rmv]; omega)) (by first | decide | (simp only [rmv]; omega)) (by first | decide | (simp only [rmv]; omega)) dL_spare_4 (kw ho (fun k X9 M1 G1 hX hoW => ?_) (fun v M1 G1 hoW => ?_))
  · rcases k with _ | k
    · obtain rfl : xIOB = X9 := Option.some.inj hX
      refine r_catch X (nm := xIOB) [] ⟨0, 9, 12, 21⟩ [] rfl (fun z hz => absurd hz List.not_mem_nil) (by decide) (by decide) wl_21 wk_xIOB (fun q => ?_)
      refine r_astore_n X dL_spare_12 (i := 3) rfl (by decide) rfl ?_
      refine r_iconst X dL_spare_13 (v := nI 1) (by decide) ?_
      exact r_iret X dL_spare_14 (by simp) (by simp) hoW
    · exact absurd hX (by simp)
  · refine r_i2l X dL_spare_7 ?_
    refine r_last0 X (hw.2 _ _ (by decide)) dL_spare_8 ?_
    refine r_goto X dL_spare_9 (tgt := 15) (by decide) ?_
    refine r_iconst X dL_spare_15 (v := nI 0) (by decide) ?_
    exact r_iret X dL_spare_16 (by simp) (by simp) hoW
theorem mx_L_purchase : MWx yL_purchase cL_purchase 3 (some .int) [(0, 8, 11, 66)] 2 := ⟨tb (List.mem_of_getElem? (i := 593) (by decide +kernel)), tb (List.mem_of_getElem? (i := 0) (by decide +kernel)), ⟨by decide +kernel, by decide +kernel⟩, by decide +kernel, by decide +kernel, by decide +kernel⟩
theorem ms_L_purchase : Cond.static yL_purchase ∈ lw_tbl := tb (List.mem_of_getElem? (i := 592) (by decide +kernel))
set_option maxHeartbeats 4000000 in
set_option maxRecDepth 100000 in
theorem c_L_purchase  {o9 : Oc} (hnt : l.stackTraces = false) (hw : WK w) (hD : DI M) (ho : wrR [xNSE] (oPurchase M G) o9) : CT l yL_purchase [Cond.codeWith yL_purchase cL_purchase 3 (some .int) [(0, 8, 11, 66)]] 25 4 24 w [.ref (w.1 (2, 0)), .ref (w.1 (40, 0))] M G o9 := by
  refine CTx_of hnt hw.1 mx_L_purchase (by simp [Value.category]) (Nat.le_of_ble_eq_true rfl) (fun p e s m args below meth c X => ?_)
  refine r_aload_n X dL_purchase_0 (i := 1) rfl rfl ?_
  refine r_iconst X dL_purchase_1 (v := nI 0) (by decide) ?_
  refine r_aload_n X dL_purchase_2 (i := 0) rfl rfl ?_
  refine r_callV X (c_X2_purchase  hnt hw hD) mw_X2_purchase kc2 mi_X2_purchase (hw.2 _ _ (by decide)) ev2 ml_L_88 rfl rfl (Nat.le_of_ble_eq_true rfl) (by first | decide | (simp only [rmv]; omega)) (by first | decide | (simp only [rmv]; omega)) (by first | decide | (simp only [rmv]; omega)) (by first | decide | (simp only [rmv]; omega)) dL_purchase_3 (kw ho (fun k X9 M1 G1 hX hoW => ?_) (fun v M1 G1 hoW => ?_))
  · rcases k with _ | k
    · obtain rfl : xNSE = X9 := Option.some.inj hX
      refine r_catch X (nm := xNSE) [] ⟨0, 8, 11, 66⟩ [] rfl (fun z hz => absurd hz List.not_mem_nil) (by decide) (by decide) wl_66 wk_xNSE (fun q => ?_)
      refine r_astore_n X dL_purchase_11 (i := 2) rfl (by decide) rfl ?_
      refine r_iconst X dL_purchase_12 (v := nI 1) (by decide) ?_
      exact r_iret X dL_purchase_13 (by simp) (by simp) hoW
    · exact absurd hX (by simp)
  · refine r_i2l X dL_purchase_6 ?_
    refine r_last0 X (hw.2 _ _ (by decide)) dL_purchase_7 ?_
    refine r_goto X dL_purchase_8 (tgt := 14) (by decide) ?_
    refine r_iconst X dL_purchase_14 (v := nI 0) (by decide) ?_
    exact r_iret X dL_purchase_15 (by simp) (by simp) hoW
theorem mx_L_purchaseByTrying : MWx yL_purchaseByTrying cL_purchaseByTrying 3 (some .int) [(0, 8, 11, 45), (0, 8, 14, 66)] 2 := ⟨tb (List.mem_of_getElem? (i := 618) (by decide +kernel)), tb (List.mem_of_getElem? (i := 0) (by decide +kernel)), ⟨by decide +kernel, by decide +kernel⟩, by decide +kernel, by decide +kernel, by decide +kernel⟩
theorem ms_L_purchaseByTrying : Cond.static yL_purchaseByTrying ∈ lw_tbl := tb (List.mem_of_getElem? (i := 617) (by decide +kernel))
set_option maxHeartbeats 4000000 in
set_option maxRecDepth 100000 in
theorem c_L_purchaseByTrying  {o9 : Oc} (hnt : l.stackTraces = false) (hw : WK w) (hD : DI M) (ho : wrR [xUOE, xNSE] (oPT M G) o9) : CT l yL_purchaseByTrying [Cond.codeWith yL_purchaseByTrying cL_purchaseByTrying 3 (some .int) [(0, 8, 11, 45), (0, 8, 14, 66)]] 25 4 24 w [.ref (w.1 (2, 0)), .ref (w.1 (40, 0))] M G o9 := by
  refine CTx_of hnt hw.1 mx_L_purchaseByTrying (by simp [Value.category]) (Nat.le_of_ble_eq_true rfl) (fun p e s m args below meth c X => ?_)
  refine r_aload_n X dL_purchaseByTrying_0 (i := 1) rfl rfl ?_
  refine r_iconst X dL_purchaseByTrying_1 (v := nI 0) (by decide) ?_
  refine r_aload_n X dL_purchaseByTrying_2 (i := 0) rfl rfl ?_
  refine r_callV X (c_X2_purchaseByTrying  hnt hw hD) mw_X2_purchaseByTrying kc2 mi_X2_purchaseByTrying (hw.2 _ _ (by decide)) ev2 ml_L_91 rfl rfl (Nat.le_of_ble_eq_true rfl) (by first | decide | (simp only [rmv]; omega)) (by first | decide | (simp only [rmv]; omega)) (by first | decide | (simp only [rmv]; omega)) (by first | decide | (simp only [rmv]; omega)) dL_purchaseByTrying_3 (kw ho (fun k X9 M1 G1 hX hoW => ?_) (fun v M1 G1 hoW => ?_))
  · rcases k with _ | _ | k
    · obtain rfl : xUOE = X9 := Option.some.inj hX
      refine r_catch X (nm := xUOE) [] ⟨0, 8, 11, 45⟩ [⟨0, 8, 14, 66⟩] rfl (fun z hz => absurd hz List.not_mem_nil) (by decide) (by decide) wl_45 wk_xUOE (fun q => ?_)
      refine r_astore_n X dL_purchaseByTrying_11 (i := 2) rfl (by decide) rfl ?_
      refine r_iconst X dL_purchaseByTrying_12 (v := nI 1) (by decide) ?_
      exact r_iret X dL_purchaseByTrying_13 (by simp) (by simp) hoW
    · obtain rfl : xNSE = X9 := Option.some.inj hX
      refine r_catch X (nm := xNSE) [⟨0, 8, 11, 45⟩] ⟨0, 8, 14, 66⟩ [] rfl (List.forall_mem_cons.mpr ⟨.inr ⟨by decide, xUOE, wl_45, by decide +kernel⟩, fun z hz => absurd hz List.not_mem_nil⟩) (by decide) (by decide) wl_66 wk_xNSE (fun q => ?_)
      refine r_astore_n X dL_purchaseByTrying_14 (i := 2) rfl (by decide) rfl ?_
      refine r_iconst X dL_purchaseByTrying_15 (v := nI 2) (by decide) ?_
      exact r_iret X dL_purchaseByTrying_16 (by simp) (by simp) hoW
    · exact absurd hX (by simp)
  · refine r_i2l X dL_purchaseByTrying_6 ?_
    refine r_last0 X (hw.2 _ _ (by decide)) dL_purchaseByTrying_7 ?_
    refine r_goto X dL_purchaseByTrying_8 (tgt := 17) (by decide) ?_
    refine r_iconst X dL_purchaseByTrying_17 (v := nI 0) (by decide) ?_
    exact r_iret X dL_purchaseByTrying_18 (by simp) (by simp) hoW
theorem mx_L_toBuy : MWx yL_toBuy cL_toBuy 4 (some .int) [(0, 9, 12, 21), (0, 9, 15, 66)] 3 := ⟨tb (List.mem_of_getElem? (i := 632) (by decide +kernel)), tb (List.mem_of_getElem? (i := 0) (by decide +kernel)), ⟨by decide +kernel, by decide +kernel⟩, by decide +kernel, by decide +kernel, by decide +kernel⟩
theorem ms_L_toBuy : Cond.static yL_toBuy ∈ lw_tbl := tb (List.mem_of_getElem? (i := 631) (by decide +kernel))
set_option maxHeartbeats 4000000 in
set_option maxRecDepth 100000 in
theorem c_L_toBuy {x1 : Int32} {o9 : Oc} (hnt : l.stackTraces = false) (hw : WK w) (hD : DI M) (ho : wrR [xIOB, xNSE] (oToBuy M G x1) o9) : CT l yL_toBuy [Cond.codeWith yL_toBuy cL_toBuy 4 (some .int) [(0, 9, 12, 21), (0, 9, 15, 66)]] 25 4 24 w [.ref (w.1 (2, 0)), .int x1, .ref (w.1 (40, 0))] M G o9 := by
  refine CTx_of hnt hw.1 mx_L_toBuy (by simp [Value.category]) (Nat.le_of_ble_eq_true rfl) (fun p e s m args below meth c X => ?_)
  refine r_aload_n X dL_toBuy_0 (i := 2) rfl rfl ?_
  refine r_iconst X dL_toBuy_1 (v := nI 0) (by decide) ?_
  refine r_aload_n X dL_toBuy_2 (i := 0) rfl rfl ?_
  refine r_iload_n X dL_toBuy_3 (i := 1) rfl rfl ?_
  refine r_callV X (c_X2_toBuy (x := x1) hnt hw hD) mw_X2_toBuy kc2 mi_X2_toBuy (hw.2 _ _ (by decide)) ev2 ml_L_94 rfl rfl (Nat.le_of_ble_eq_true rfl) (by first | decide | (simp only [rmv]; omega)) (by first | decide | (simp only [rmv]; omega)) (by first | decide | (simp only [rmv]; omega)) (by first | decide | (simp only [rmv]; omega)) dL_toBuy_4 (kw ho (fun k X9 M1 G1 hX hoW => ?_) (fun v M1 G1 hoW => ?_))
  · rcases k with _ | _ | k
    · obtain rfl : xIOB = X9 := Option.some.inj hX
      refine r_catch X (nm := xIOB) [] ⟨0, 9, 12, 21⟩ [⟨0, 9, 15, 66⟩] rfl (fun z hz => absurd hz List.not_mem_nil) (by decide) (by decide) wl_21 wk_xIOB (fun q => ?_)
      refine r_astore_n X dL_toBuy_12 (i := 3) rfl (by decide) rfl ?_
      refine r_iconst X dL_toBuy_13 (v := nI 1) (by decide) ?_
      exact r_iret X dL_toBuy_14 (by simp) (by simp) hoW
    · obtain rfl : xNSE = X9 := Option.some.inj hX
      refine r_catch X (nm := xNSE) [⟨0, 9, 12, 21⟩] ⟨0, 9, 15, 66⟩ [] rfl (List.forall_mem_cons.mpr ⟨.inr ⟨by decide, xIOB, wl_21, by decide +kernel⟩, fun z hz => absurd hz List.not_mem_nil⟩) (by decide) (by decide) wl_66 wk_xNSE (fun q => ?_)
      refine r_astore_n X dL_toBuy_15 (i := 3) rfl (by decide) rfl ?_
      refine r_iconst X dL_toBuy_16 (v := nI 2) (by decide) ?_
      exact r_iret X dL_toBuy_17 (by simp) (by simp) hoW
    · exact absurd hX (by simp)
  · refine r_i2l X dL_toBuy_7 ?_
    refine r_last0 X (hw.2 _ _ (by decide)) dL_toBuy_8 ?_
    refine r_goto X dL_toBuy_9 (tgt := 18) (by decide) ?_
    refine r_iconst X dL_toBuy_18 (v := nI 0) (by decide) ?_
    exact r_iret X dL_toBuy_19 (by simp) (by simp) hoW
theorem mx_L_trueUp : MWx yL_trueUp cL_trueUp 3 (some .int) [(0, 8, 11, 66)] 2 := ⟨tb (List.mem_of_getElem? (i := 639) (by decide +kernel)), tb (List.mem_of_getElem? (i := 0) (by decide +kernel)), ⟨by decide +kernel, by decide +kernel⟩, by decide +kernel, by decide +kernel, by decide +kernel⟩
theorem ms_L_trueUp : Cond.static yL_trueUp ∈ lw_tbl := tb (List.mem_of_getElem? (i := 638) (by decide +kernel))
set_option maxHeartbeats 4000000 in
set_option maxRecDepth 100000 in
theorem c_L_trueUp  {o9 : Oc} (hnt : l.stackTraces = false) (hw : WK w) (hD : DI M) (ho : wrR [xNSE] (oTrueUp M G) o9) : CT l yL_trueUp [Cond.codeWith yL_trueUp cL_trueUp 3 (some .int) [(0, 8, 11, 66)]] 25 4 24 w [.ref (w.1 (2, 0)), .ref (w.1 (40, 0))] M G o9 := by
  refine CTx_of hnt hw.1 mx_L_trueUp (by simp [Value.category]) (Nat.le_of_ble_eq_true rfl) (fun p e s m args below meth c X => ?_)
  refine r_aload_n X dL_trueUp_0 (i := 1) rfl rfl ?_
  refine r_iconst X dL_trueUp_1 (v := nI 0) (by decide) ?_
  refine r_aload_n X dL_trueUp_2 (i := 0) rfl rfl ?_
  refine r_callV X (c_X2_trueUp  hnt hw hD) mw_X2_trueUp kc2 mi_X2_trueUp (hw.2 _ _ (by decide)) ev2 ml_L_97 rfl rfl (Nat.le_of_ble_eq_true rfl) (by first | decide | (simp only [rmv]; omega)) (by first | decide | (simp only [rmv]; omega)) (by first | decide | (simp only [rmv]; omega)) (by first | decide | (simp only [rmv]; omega)) dL_trueUp_3 (kw ho (fun k X9 M1 G1 hX hoW => ?_) (fun v M1 G1 hoW => ?_))
  · rcases k with _ | k
    · obtain rfl : xNSE = X9 := Option.some.inj hX
      refine r_catch X (nm := xNSE) [] ⟨0, 8, 11, 66⟩ [] rfl (fun z hz => absurd hz List.not_mem_nil) (by decide) (by decide) wl_66 wk_xNSE (fun q => ?_)
      refine r_astore_n X dL_trueUp_11 (i := 2) rfl (by decide) rfl ?_
      refine r_iconst X dL_trueUp_12 (v := nI 1) (by decide) ?_
      exact r_iret X dL_trueUp_13 (by simp) (by simp) hoW
    · exact absurd hX (by simp)
  · refine r_i2l X dL_trueUp_6 ?_
    refine r_last0 X (hw.2 _ _ (by decide)) dL_trueUp_7 ?_
    refine r_goto X dL_trueUp_8 (tgt := 14) (by decide) ?_
    refine r_iconst X dL_trueUp_14 (v := nI 0) (by decide) ?_
    exact r_iret X dL_trueUp_15 (by simp) (by simp) hoW
theorem mx_L_coverage : MWx yL_coverage cL_coverage 3 (some .int) [(0, 8, 11, 66)] 2 := ⟨tb (List.mem_of_getElem? (i := 646) (by decide +kernel)), tb (List.mem_of_getElem? (i := 0) (by decide +kernel)), ⟨by decide +kernel, by decide +kernel⟩, by decide +kernel, by decide +kernel, by decide +kernel⟩
theorem ms_L_coverage : Cond.static yL_coverage ∈ lw_tbl := tb (List.mem_of_getElem? (i := 645) (by decide +kernel))
set_option maxHeartbeats 4000000 in
set_option maxRecDepth 100000 in
theorem c_L_coverage  {o9 : Oc} (hnt : l.stackTraces = false) (hw : WK w) (hD : DI M) (hv : ¬ M 2 0 3 = 0 → vf_n32 (FP.fdiv (FP.i2f (fcM M 2 0 9)) (FP.i2f (fcM M 2 0 3)))) (ho : wrD (oCoverage M G) o9) : CT l yL_coverage [Cond.codeWith yL_coverage cL_coverage 3 (some .int) [(0, 8, 11, 66)]] 25 4 24 w [.ref (w.1 (2, 0)), .ref (w.1 (41, 0))] M G o9 := by
  refine CTx_of hnt hw.1 mx_L_coverage (by simp [Value.category]) (Nat.le_of_ble_eq_true rfl) (fun p e s m args below meth c X => ?_)
  refine r_aload_n X dL_coverage_0 (i := 1) rfl rfl ?_
  refine r_iconst X dL_coverage_1 (v := nI 0) (by decide) ?_
  refine r_aload_n X dL_coverage_2 (i := 0) rfl rfl ?_
  refine r_callV X (c_X2_coverage  hnt hw hD hv) mw_X2_coverage kc2 mi_X2_coverage (hw.2 _ _ (by decide)) ev2 ml_L_100 rfl rfl (Nat.le_of_ble_eq_true rfl) (by first | decide | (simp only [rmv]; omega)) (by first | decide | (simp only [rmv]; omega)) (by first | decide | (simp only [rmv]; omega)) (by first | decide | (simp only [rmv]; omega)) dL_coverage_3 (kd ho (fun M1 G1 hoW => ?_) (fun f M1 G1 hn hoW => ?_))
  · refine r_catch X (nm := xNSE) [] ⟨0, 8, 11, 66⟩ [] rfl (fun z hz => absurd hz List.not_mem_nil) (by decide) (by decide) wl_66 wk_xNSE (fun q => ?_)
    refine r_astore_n X dL_coverage_11 (i := 2) rfl (by decide) rfl ?_
    refine r_iconst X dL_coverage_12 (v := nI 1) (by decide) ?_
    exact r_iret X dL_coverage_13 (by simp) (by simp) hoW
  · refine r_f2d X dL_coverage_6 hn ?_
    refine r_dast0 X (hw.2 _ _ (by decide)) dL_coverage_7 ?_
    refine r_goto X dL_coverage_8 (tgt := 14) (by decide) ?_
    refine r_iconst X dL_coverage_14 (v := nI 0) (by decide) ?_
    exact r_iret X dL_coverage_15 (by simp) (by simp) hoW
end Wraps
