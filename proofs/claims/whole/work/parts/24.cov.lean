/-! COVERAGE: the class's and the model's; the quotient is no NaN (a premise here, true of the ranges) -/
section Cov
def oCoverage (M : Mem) (G : Lng) : Oc := if M 2 0 3 = 0 then thO xNSE M G else okO (some (.float (FP.fdiv (FP.i2f (fcM M 2 0 9)) (FP.i2f (fcM M 2 0 3))))) (fcM M) G
def nCoverage (M : Mem) (G : Lng) : Oc := if M 3 0 2 = 0 then okO (some (.float 0)) (tM M true) G else okO (some (.float (FP.fdiv (FP.i2f (coM (tM M false) 3 0 4)) (FP.i2f (coM (tM M false) 3 0 2))))) (coM (tM M false)) G
theorem fq_ok : ∀ (a : Fin 13) (b : Fin 7), b.val ≠ 0 → vf_n32 (FP.fdiv (FP.i2f (nI a.val)) (FP.i2f (nI b.val))) ∧ vf_n64 (FP.f2d (FP.fdiv (FP.i2f (nI a.val)) (FP.i2f (nI b.val)))) := by
  unfold vf_n32 vf_n64
  decide +kernel
theorem fz_ok : vf_n64 (FP.f2d 0) := by
  unfold vf_n64
  decide +kernel
set_option maxHeartbeats 4000000 in
set_option maxRecDepth 100000 in
theorem c_X2_coverage {l : Launch} {w : Wo} {M : Mem} {G : Lng}  (hnt : l.stackTraces = false) (hw : WK w) (hD : DI M) (hv : ¬ M 2 0 3 = 0 → vf_n32 (FP.fdiv (FP.i2f (fcM M 2 0 9)) (FP.i2f (fcM M 2 0 3)))) : CT l yX2_coverage [Cond.code yX2_coverage cX2_coverage 1 (some .float)] 24 4 24 w [.ref (w.1 (2, 0))] M G (oCoverage M G) := by
  refine CT_of hnt hw.1 mw_X2_coverage (by simp [Value.category]) (Nat.le_of_ble_eq_true rfl) (fun p e s m args below meth c X => ?_)
  refine r_aload_n X dX2_coverage_0 (i := 0) rfl rfl ?_
  refine r_get X kc2 (j := 3) (hw.2 _ _ (by first | decide | (simp [cnt] <;> omega))) ev2 (by decide) rfl fl_X2_55 dX2_coverage_1 ?_
  first | with_reducible refine r_ifb_ne X dX2_coverage_4 (tgt := 17) (by decide) (fun h1 => ?_) (fun h1 => ?_) | refine r_if_ne X dX2_coverage_4 (tgt := 17) (by decide) (fun h1 => ?_) (fun h1 => ?_)
  · refine r_aload_n X dX2_coverage_17 (i := 0) rfl rfl ?_
    refine r_callV X (c_X2_findCover hnt hw (by first | with_reducible assumption | with_reducible rfl | omega | (with_reducible (repeat (first | assumption | refine DM_t ?_ | refine DM_ms rfl ?_ | refine DM_gr ?_ | refine DM_nd ?_ | refine DM_tk ?_ | refine DM_pt ?_ | refine DM_bg ?_ | refine DM_cs ?_ | refine DM_kv ?_ | refine DM_bs ?_ | refine DM_co ?_ | refine DM_pu ?_)); done))) mw_X2_findCover kc2 mi_X2_findCover (hw.2 _ _ (by first | decide | (simp [cnt] <;> omega))) ev2 ml_X2_184 rfl rfl (Nat.le_of_ble_eq_true rfl) (by first | decide | (simp only [rmv]; omega)) (by first | decide | (simp only [rmv]; omega)) (by first | decide | (simp only [rmv]; omega)) (by first | decide | (simp only [rmv]; omega)) dX2_coverage_18 (ko1 ?_)
    refine r_i2f X dX2_coverage_21 ?_
    refine r_aload_n X dX2_coverage_22 (i := 0) rfl rfl ?_
    refine r_get X kc2 (j := 3) (hw.2 _ _ (by first | decide | (simp [cnt] <;> omega))) ev2 (by decide) rfl fl_X2_55 dX2_coverage_23 ?_
    refine r_i2f X dX2_coverage_26 ?_
    refine r_fdiv X dX2_coverage_27 (hv (by with_reducible assumption)) ?_
    refine r_fret X dX2_coverage_28 (by first | decide | (simp only [rmv]; omega)) (by first | decide | (simp only [rmv]; omega)) ?_
    first | with_reducible rfl | (simp [oCoverage, h1]; done) | contradiction | with_reducible assumption
  · refine r_throwN X dnse_0 dnse_1 dnse_2 dnse_5 kl_169 ki_xNSE (sw_232) at_xNSE dX2_coverage_7 dX2_coverage_10 dX2_coverage_11 dX2_coverage_13 dX2_coverage_16 (by first | decide | (simp only [rmv]; omega)) (by first | decide | (simp [Value.category, rmv] <;> omega)) (by first | decide | (simp only [rmv]; omega)) (by first | decide | (simp only [rmv]; omega)) (by first | decide | (simp only [rmv]; omega)) (by first | decide | (simp only [rmv]; omega)) ?_
    simp [oCoverage, h1]

set_option maxHeartbeats 4000000 in
set_option maxRecDepth 100000 in
theorem c_X3_coverage {l : Launch} {w : Wo} {M : Mem} {G : Lng}  (hnt : l.stackTraces = false) (hw : WK w) (hD : DM M) (hv : ¬ M 3 0 2 = 0 → vf_n32 (FP.fdiv (FP.i2f (coM (tM M false) 3 0 4)) (FP.i2f (coM (tM M false) 3 0 2)))) : CT l yX3_coverage [Cond.code yX3_coverage cX3_coverage 1 (some .float)] 25 0 0 w [.ref (w.1 (3, 0))] M G (nCoverage M G) := by
  refine CT_of hnt hw.1 mw_X3_coverage (by simp [Value.category]) (Nat.le_of_ble_eq_true rfl) (fun p e s m args below meth c X => ?_)
  refine r_aload_n X dX3_coverage_0 (i := 0) rfl rfl ?_
  refine r_aload_n X dX3_coverage_1 (i := 0) rfl rfl ?_
  refine r_get X kc3 (j := 2) (hw.2 _ _ (by first | decide | (simp [cnt] <;> omega))) ev3 (by decide) rfl fl_X3_97 dX3_coverage_2 ?_
  first | with_reducible refine r_ifb_ne X dX3_coverage_5 (tgt := 12) (by decide) (fun h1 => ?_) (fun h1 => ?_) | refine r_if_ne X dX3_coverage_5 (tgt := 12) (by decide) (fun h1 => ?_) (fun h1 => ?_)
  · refine r_iconst X dX3_coverage_12 (v := nI 0) (by decide) ?_
    refine r_put X kc3 (j := 0) (hw.2 _ _ (by first | decide | (simp [cnt] <;> omega))) ev3 (by decide) (Nat.le_of_ble_eq_true rfl) fl_X3_78 rfl rfl rfl dX3_coverage_13 es_3_0 ?_
    refine r_aload_n X dX3_coverage_16 (i := 0) rfl rfl ?_
    refine r_get X kc3 (j := 2) (hw.2 _ _ (by first | decide | (simp [cnt] <;> omega))) ev3 (by decide) rfl fl_X3_97 dX3_coverage_17 ?_
    first | with_reducible refine r_ifb_ne X dX3_coverage_20 (tgt := 25) (by decide) (fun h2 => ?_) (fun h2 => ?_) | refine r_if_ne X dX3_coverage_20 (tgt := 25) (by decide) (fun h2 => ?_) (fun h2 => ?_)
    · have hne : ¬ M 3 0 2 = 0 := by simpa [ms] using h2
      refine r_aload_n X dX3_coverage_25 (i := 0) rfl rfl ?_
      refine r_callV X (c_X3_cover hnt hw (by first | with_reducible assumption | with_reducible rfl | omega | (with_reducible (repeat (first | assumption | refine DM_t ?_ | refine DM_ms rfl ?_ | refine DM_gr ?_ | refine DM_nd ?_ | refine DM_tk ?_ | refine DM_pt ?_ | refine DM_bg ?_ | refine DM_cs ?_ | refine DM_kv ?_ | refine DM_bs ?_ | refine DM_co ?_ | refine DM_pu ?_)); done))) mw_X3_cover kc3 mi_X3_cover (hw.2 _ _ (by first | decide | (simp [cnt] <;> omega))) ev3 ml_X3_148 rfl rfl (Nat.le_of_ble_eq_true rfl) (by first | decide | (simp only [rmv]; omega)) (by first | decide | (simp only [rmv]; omega)) (by first | decide | (simp only [rmv]; omega)) (by first | decide | (simp only [rmv]; omega)) dX3_coverage_26 (ko0 ?_)
      refine r_aload_n X dX3_coverage_29 (i := 0) rfl rfl ?_
      refine r_get X kc3 (j := 4) (hw.2 _ _ (by first | decide | (simp [cnt] <;> omega))) ev3 (by decide) rfl fl_X3_129 dX3_coverage_30 ?_
      refine r_i2f X dX3_coverage_33 ?_
      refine r_aload_n X dX3_coverage_34 (i := 0) rfl rfl ?_
      refine r_get X kc3 (j := 2) (hw.2 _ _ (by first | decide | (simp [cnt] <;> omega))) ev3 (by decide) rfl fl_X3_97 dX3_coverage_35 ?_
      refine r_i2f X dX3_coverage_38 ?_
      refine r_fdiv X dX3_coverage_39 (by first | exact hv hne | exact absurd (by with_reducible assumption) hne) ?_
      refine r_fret X dX3_coverage_40 (by first | decide | (simp only [rmv]; omega)) (by first | decide | (simp only [rmv]; omega)) ?_
      first | with_reducible rfl | (first | (simp [nCoverage, tM, h1, h2]; done) | (exfalso; simp_all [ms]); done) | contradiction | with_reducible assumption
    · refine r_fconst0 X dX3_coverage_23 ?_
      refine r_fret X dX3_coverage_24 (by first | decide | (simp only [rmv]; omega)) (by first | decide | (simp only [rmv]; omega)) ?_
      first | with_reducible rfl | (first | (simp [nCoverage, tM, h1, h2]; done) | (exfalso; simp_all [ms]); done) | contradiction | with_reducible assumption
  · refine r_iconst X dX3_coverage_8 (v := nI 1) (by decide) ?_
    refine r_goto X dX3_coverage_9 (tgt := 13) (by decide) ?_
    refine r_put X kc3 (j := 0) (hw.2 _ _ (by first | decide | (simp [cnt] <;> omega))) ev3 (by decide) (Nat.le_of_ble_eq_true rfl) fl_X3_78 rfl rfl rfl dX3_coverage_13 es_3_0 ?_
    refine r_aload_n X dX3_coverage_16 (i := 0) rfl rfl ?_
    refine r_get X kc3 (j := 2) (hw.2 _ _ (by first | decide | (simp [cnt] <;> omega))) ev3 (by decide) rfl fl_X3_97 dX3_coverage_17 ?_
    first | with_reducible refine r_ifb_ne X dX3_coverage_20 (tgt := 25) (by decide) (fun h3 => ?_) (fun h3 => ?_) | refine r_if_ne X dX3_coverage_20 (tgt := 25) (by decide) (fun h3 => ?_) (fun h3 => ?_)
    · have hne : ¬ M 3 0 2 = 0 := by simpa [ms] using h3
      refine r_aload_n X dX3_coverage_25 (i := 0) rfl rfl ?_
      refine r_callV X (c_X3_cover hnt hw (by first | with_reducible assumption | with_reducible rfl | omega | (with_reducible (repeat (first | assumption | refine DM_t ?_ | refine DM_ms rfl ?_ | refine DM_gr ?_ | refine DM_nd ?_ | refine DM_tk ?_ | refine DM_pt ?_ | refine DM_bg ?_ | refine DM_cs ?_ | refine DM_kv ?_ | refine DM_bs ?_ | refine DM_co ?_ | refine DM_pu ?_)); done))) mw_X3_cover kc3 mi_X3_cover (hw.2 _ _ (by first | decide | (simp [cnt] <;> omega))) ev3 ml_X3_148 rfl rfl (Nat.le_of_ble_eq_true rfl) (by first | decide | (simp only [rmv]; omega)) (by first | decide | (simp only [rmv]; omega)) (by first | decide | (simp only [rmv]; omega)) (by first | decide | (simp only [rmv]; omega)) dX3_coverage_26 (ko0 ?_)
      refine r_aload_n X dX3_coverage_29 (i := 0) rfl rfl ?_
      refine r_get X kc3 (j := 4) (hw.2 _ _ (by first | decide | (simp [cnt] <;> omega))) ev3 (by decide) rfl fl_X3_129 dX3_coverage_30 ?_
      refine r_i2f X dX3_coverage_33 ?_
      refine r_aload_n X dX3_coverage_34 (i := 0) rfl rfl ?_
      refine r_get X kc3 (j := 2) (hw.2 _ _ (by first | decide | (simp [cnt] <;> omega))) ev3 (by decide) rfl fl_X3_97 dX3_coverage_35 ?_
      refine r_i2f X dX3_coverage_38 ?_
      refine r_fdiv X dX3_coverage_39 (by first | exact hv hne | exact absurd (by with_reducible assumption) hne) ?_
      refine r_fret X dX3_coverage_40 (by first | decide | (simp only [rmv]; omega)) (by first | decide | (simp only [rmv]; omega)) ?_
      first | with_reducible rfl | (first | (simp [nCoverage, tM, h1, h3]; done) | (exfalso; simp_all [ms]); done) | contradiction | with_reducible assumption
    · refine r_fconst0 X dX3_coverage_23 ?_
      refine r_fret X dX3_coverage_24 (by first | decide | (simp only [rmv]; omega)) (by first | decide | (simp only [rmv]; omega)) ?_
      first | with_reducible rfl | (first | (simp [nCoverage, tM, h1, h3]; done) | (exfalso; simp_all [ms]); done) | contradiction | with_reducible assumption

end Cov
